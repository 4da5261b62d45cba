/-! RUNS AS PREDICATES: Wp mi pc L st lay nx h Q: the run from here ends, and Q holds of its end -/
def Wp (mi pc : Nat) (L : PL) (st : List PV) (lay : PY) (nx : Nat) (h : PC) (Q : PO → PY → Nat → PC → Prop) : Prop := ∃ (f : Nat) (o : PO) (lay' : PY) (nx' : Nat) (h' : PC), prun f mi (pc, L, st, lay, nx, h) = some (o, lay', nx', h') ∧ Q o lay' nx' h'
theorem prun_le : ∀ (f f' mi : Nat) (σ : PS) (r : PO × PY × Nat × PC), prun f mi σ = some r → f ≤ f' → prun f' mi σ = some r := by
  intro f
  induction f with
  | zero => intro f' mi σ r h; cases h
  | succ f ih =>
    intro f' mi σ r h hl
    obtain ⟨g, rfl⟩ : ∃ g, f' = g + 1 := ⟨f' - 1, by omega⟩
    have hfg : f ≤ g := by omega
    unfold prun at h ⊢
    cases hq : pcode mi σ.1 with
    | none => rw [hq] at h; cases h
    | some q =>
      rw [hq] at h
      dsimp only at h ⊢
      cases hs : pstep q σ with
      | none => rw [hs] at h; cases h
      | some z =>
        rw [hs] at h
        rcases z with σ' | ⟨mj, args, pc', st'⟩ | v | e
        · exact ih _ _ _ _ h hfg
        · dsimp only at h ⊢
          by_cases ha : pargs mj args = false
          · rw [if_pos ha] at h; cases h
          · rw [if_neg ha] at h ⊢
            cases hr : prun f mj (0, entL args (pnL mj), [], σ.2.2.2.1, σ.2.2.2.2.1, σ.2.2.2.2.2) with
            | none => rw [hr] at h; cases h
            | some w =>
              obtain ⟨o, lay1, nx1, h1⟩ := w
              rw [hr] at h
              rw [ih _ _ _ _ hr hfg]
              rcases o with v | e
              · dsimp only at h ⊢
                by_cases hp : pini.getD mj 0 = 1 ∧ v ≠ none
                · rw [if_pos hp] at h; cases h
                · rw [if_neg hp] at h ⊢
                  exact ih _ _ _ _ h hfg
              · dsimp only at h ⊢
                by_cases hp : pini.getD mj 0 = 1
                · rw [if_pos hp] at h; cases h
                · rw [if_neg hp] at h ⊢
                  by_cases hh : phh mi = []
                  · rw [if_pos hh] at h ⊢; exact h
                  · rw [if_neg hh] at h ⊢
                    cases hf : hfind (phh mi) σ.1 e with
                    | none => rw [hf] at h; cases h
                    | some hd => rw [hf] at h; exact ih _ _ _ _ h hfg
        · exact h
        · exact h
theorem prun_det {f f' mi : Nat} {σ : PS} {r r' : PO × PY × Nat × PC} (h : prun f mi σ = some r) (h' : prun f' mi σ = some r') : r = r' := by
  rcases Nat.le_total f f' with hl | hl
  · have := prun_le _ _ _ _ _ h hl
    exact Option.some.inj (this.symm.trans h')
  · have := prun_le _ _ _ _ _ h' hl
    exact Option.some.inj (h.symm.trans this)
/-- behind a call -/
def Kc (mi pc : Nat) (L : PL) (pc' : Nat) (st : List PV) (Q : PO → PY → Nat → PC → Prop) : PO → PY → Nat → PC → Prop := fun o lay nx h => match o with
  | Sum.inl v => Wp mi pc' L (v.toList ++ st) lay nx h Q
  | Sum.inr e => if phh mi = [] then Q (Sum.inr e) lay nx h else match hfind (phh mi) pc e with
    | none => False
    | some hd => Wp mi hd L [pR (-2000)] lay nx h Q
section WP
variable {mi pc : Nat} {L : PL} {st : List PV} {lay : PY} {nx : Nat} {h : PC} {Q : PO → PY → Nat → PC → Prop} {q : PI}
theorem Wp.next {pc' : Nat} {L' : PL} {st' : List PV} {lay' : PY} {nx' : Nat} {h' : PC} (hq : pcode mi pc = some q) (hs : pstep q (pc, L, st, lay, nx, h) = some (Sum.inl (pc', L', st', lay', nx', h'))) : Wp mi pc L st lay nx h Q ↔ Wp mi pc' L' st' lay' nx' h' Q := by
  have e : ∀ f, prun (f + 1) mi (pc, L, st, lay, nx, h) = prun f mi (pc', L', st', lay', nx', h') := by
    intro f
    rw [prun, hq]
    dsimp only
    rw [hs]
  constructor
  · rintro ⟨f, o, l1, n1, h1, hr, hQ⟩
    cases f with
    | zero => cases hr
    | succ f => exact ⟨f, o, l1, n1, h1, by rw [← e f]; exact hr, hQ⟩
  · rintro ⟨f, o, l1, n1, h1, hr, hQ⟩
    exact ⟨f + 1, o, l1, n1, h1, by rw [e f]; exact hr, hQ⟩
theorem Wp.ret {v : Option PV} (hq : pcode mi pc = some q) (hs : pstep q (pc, L, st, lay, nx, h) = some (Sum.inr (Sum.inr (Sum.inl v)))) : Wp mi pc L st lay nx h Q ↔ Q (Sum.inl v) lay nx h := by
  have e : ∀ f, prun (f + 1) mi (pc, L, st, lay, nx, h) = some (Sum.inl v, lay, nx, h) := by
    intro f
    rw [prun, hq]
    dsimp only
    rw [hs]
  constructor
  · rintro ⟨f, o, l1, n1, h1, hr, hQ⟩
    cases f with
    | zero => cases hr
    | succ f => rw [e f] at hr; cases hr; exact hQ
  · intro hQ
    exact ⟨1, _, _, _, _, e 0, hQ⟩
theorem Wp.thr {ex : Nat} (hq : pcode mi pc = some q) (hs : pstep q (pc, L, st, lay, nx, h) = some (Sum.inr (Sum.inr (Sum.inr ex)))) : Wp mi pc L st lay nx h Q ↔ Q (Sum.inr ex) lay (nx + 1) h := by
  have e : ∀ f, prun (f + 1) mi (pc, L, st, lay, nx, h) = some (Sum.inr ex, lay, nx + 1, h) := by
    intro f
    rw [prun, hq]
    dsimp only
    rw [hs]
  constructor
  · rintro ⟨f, o, l1, n1, h1, hr, hQ⟩
    cases f with
    | zero => cases hr
    | succ f => rw [e f] at hr; cases hr; exact hQ
  · intro hQ
    exact ⟨1, _, _, _, _, e 0, hQ⟩
theorem Wp.call {mj pc' : Nat} {args st' : List PV} (hq : pcode mi pc = some q) (hs : pstep q (pc, L, st, lay, nx, h) = some (Sum.inr (Sum.inl (mj, args, pc', st')))) (ha : pargs mj args = true) (hp : pini.getD mj 0 = 0) : Wp mi pc L st lay nx h Q ↔ Wp mj 0 (entL args (pnL mj)) [] lay nx h (Kc mi pc L pc' st' Q) := by
  have hp1 : ¬ pini.getD mj 0 = 1 := by rw [hp]; decide
  have ha1 : ¬ pargs mj args = false := by rw [ha]; decide
  constructor
  · rintro ⟨f, o, l1, n1, h1, hr, hQ⟩
    cases f with
    | zero => cases hr
    | succ f =>
      rw [prun, hq] at hr
      dsimp only at hr
      rw [hs] at hr
      dsimp only at hr
      rw [if_neg ha1] at hr
      cases hc : prun f mj (0, entL args (pnL mj), [], lay, nx, h) with
      | none => rw [hc] at hr; cases hr
      | some w =>
        obtain ⟨o2, lay2, nx2, h2⟩ := w
        rw [hc] at hr
        refine ⟨f, o2, lay2, nx2, h2, hc, ?_⟩
        rcases o2 with v | ex
        · dsimp only at hr
          rw [if_neg (fun z => hp1 z.1)] at hr
          exact ⟨f, o, l1, n1, h1, hr, hQ⟩
        · dsimp only at hr
          rw [if_neg hp1] at hr
          unfold Kc
          dsimp only
          by_cases hh : phh mi = []
          · rw [if_pos hh] at hr ⊢; cases hr; exact hQ
          · rw [if_neg hh] at hr ⊢
            cases hf : hfind (phh mi) pc ex with
            | none => rw [hf] at hr; cases hr
            | some hd => rw [hf] at hr; exact ⟨f, o, l1, n1, h1, hr, hQ⟩
  · rintro ⟨f, o2, lay2, nx2, h2, hc, hK⟩
    have fin : ∀ (mi2 : Nat) (σ : PS), (∃ f o l1 n1 h1, prun f mi2 σ = some (o, l1, n1, h1) ∧ Q o l1 n1 h1) → ∃ g, f ≤ g ∧ ∃ o l1 n1 h1, prun g mi2 σ = some (o, l1, n1, h1) ∧ Q o l1 n1 h1 := by
      rintro mi2 σ ⟨f2, o, l1, n1, h1, hr, hQ⟩
      exact ⟨f + f2, by omega, o, l1, n1, h1, prun_le _ _ _ _ _ hr (by omega), hQ⟩
    rcases o2 with v | ex
    · obtain ⟨g, hg, o, l1, n1, h1, hr, hQ⟩ := fin _ _ hK
      refine ⟨g + 1, o, l1, n1, h1, ?_, hQ⟩
      rw [prun, hq]
      dsimp only
      rw [hs]
      dsimp only
      rw [if_neg ha1, prun_le _ _ _ _ _ hc hg]
      dsimp only
      rw [if_neg (fun z => hp1 z.1)]
      exact hr
    · unfold Kc at hK
      dsimp only at hK
      by_cases hh : phh mi = []
      · rw [if_pos hh] at hK
        refine ⟨f + 1, _, _, _, _, ?_, hK⟩
        rw [prun, hq]
        dsimp only
        rw [hs]
        dsimp only
        rw [if_neg ha1, hc]
        dsimp only
        rw [if_neg hp1, if_pos hh]
      · rw [if_neg hh] at hK
        cases hf : hfind (phh mi) pc ex with
        | none => rw [hf] at hK; exact hK.elim
        | some hd =>
          rw [hf] at hK
          obtain ⟨g, hg, o, l1, n1, h1, hr, hQ⟩ := fin _ _ hK
          refine ⟨g + 1, o, l1, n1, h1, ?_, hQ⟩
          rw [prun, hq]
          dsimp only
          rw [hs]
          dsimp only
          rw [if_neg ha1, prun_le _ _ _ _ _ hc hg]
          dsimp only
          rw [if_neg hp1, if_neg hh]
          rw [hf]
          exact hr
theorem Wp.mono {Q' : PO → PY → Nat → PC → Prop} (hw : Wp mi pc L st lay nx h Q) (hQ : ∀ o l n h, Q o l n h → Q' o l n h) : Wp mi pc L st lay nx h Q' := by
  obtain ⟨f, o, l1, n1, h1, hr, h2⟩ := hw
  exact ⟨f, o, l1, n1, h1, hr, hQ _ _ _ _ h2⟩
/-- a run that is known: from then on it's its end -/
theorem Wp.eq {o : PO} {lay' : PY} {nx' : Nat} {h' : PC} (hw : Wp mi pc L st lay nx h (fun o1 l1 n1 h1 => o1 = o ∧ l1 = lay' ∧ n1 = nx' ∧ h1 = h')) : Wp mi pc L st lay nx h Q ↔ Q o lay' nx' h' := by
  obtain ⟨f, o1, l1, n1, h1, hr, rfl, rfl, rfl, rfl⟩ := hw
  constructor
  · rintro ⟨f2, o2, l2, n2, h2, hr2, hQ⟩
    have := prun_det hr hr2
    cases this
    exact hQ
  · intro hQ
    exact ⟨f, _, _, _, _, hr, hQ⟩
theorem Kc_v (v : PV) : Kc mi pc L pc st Q (Sum.inl (some v)) lay nx h ↔ Wp mi pc L (v :: st) lay nx h Q := Iff.rfl
end WP
theorem Kv {mi pc pc' : Nat} {L : PL} {st : List PV} {lay : PY} {nx : Nat} {h : PC} {Q : PO → PY → Nat → PC → Prop} (v : PV) : Kc mi pc L pc' st Q (Sum.inl (some v)) lay nx h ↔ Wp mi pc' L (v :: st) lay nx h Q := Iff.rfl
theorem Kn {mi pc pc' : Nat} {L : PL} {st : List PV} {lay : PY} {nx : Nat} {h : PC} {Q : PO → PY → Nat → PC → Prop} : Kc mi pc L pc' st Q (Sum.inl none) lay nx h ↔ Wp mi pc' L st lay nx h Q := Iff.rfl
theorem Kx {mi pc pc' : Nat} {L : PL} {st : List PV} {lay : PY} {nx : Nat} {h : PC} {Q : PO → PY → Nat → PC → Prop} {e : Nat} (hh : phh mi = []) : Kc mi pc L pc' st Q (Sum.inr e) lay nx h ↔ Q (Sum.inr e) lay nx h := by
  unfold Kc
  dsimp only
  rw [if_pos hh]
