theorem lkP_mem : ∀ {l : List (Nat × PI)} {pc : Nat} {q : PI}, lkP l pc = some q → (pc, q) ∈ l
  | [], pc, q, h => by cases h
  | (a, z) :: t, pc, q, h => by
    unfold lkP at h
    split at h
    · rename_i ha
      cases h
      rw [ha]
      exact List.mem_cons_self
    · exact List.mem_cons_of_mem _ (lkP_mem h)
theorem lkN_mem : ∀ {l : List (Nat × Nat)} {k v : Nat}, lkN l k = some v → (k, v) ∈ l
  | [], k, v, h => by cases h
  | (a, z) :: t, k, v, h => by
    unfold lkN at h
    split at h
    · rename_i ha
      cases h
      rw [ha]
      exact List.mem_cons_self
    · exact List.mem_cons_of_mem _ (lkN_mem h)
/-- what the kernel has looked at, method by method -/
def AllOk : Prop := ∀ (mi : Nat) (x : MI), mtab[mi]? = some x → (∀ (pc : Nat) (q : PI), pcode mi pc = some q → ckq x pc q = true) ∧ 1 ≤ x.2.2.2.2.2.1 ∧ plainName x.1.cls = true ∧ (x.2.2.2.2.1 ≠ [] → x.1.cls = "LetterAuctionLaw" ∧ x.2.2.2.2.2.2 = false ∧ ∀ z ∈ x.2.2.2.2.1, z.2.2.2 ≠ 0)
theorem cte_ok : ∀ r ∈ cte, Cond.classLink "LetterAuctionLaw" r.1 (exn r.2) ∈ GT ∧ r.2 < 3 := by decide +kernel
section H1
variable {p : Program} {l : Launch} {e : Env} {R : Room} {s : State} {m : MethodId} {args : Array Value} {below : List Frame} {meth : Method} {c : Code} {Q : State → Prop} {D : va_G} {A : Nat → Prop} {adK adV : Nat → Nat} {b Ls : Nat} {xs : Nat → Int32} {c0 s0 : Nat} {ads0 : List Nat} {x : MI}
theorem NCs.of {U : State} (h : NCs U) {e1 e2 : Nat} (h1 : e1 < 3) (h2 : e2 < 3) (hne : e1 ≠ e2) : va_Nc (exn e1) (exn e2) U := by
  obtain ⟨n1, n2, n3, n4, n5, n6⟩ := h
  match e1, e2, h1, h2, hne with
  | 0, 0, _, _, h => exact absurd rfl h
  | 1, 1, _, _, h => exact absurd rfl h
  | 2, 2, _, _, h => exact absurd rfl h
  | 0, 1, _, _, _ => exact n1
  | 2, 1, _, _, _ => exact n2
  | 2, 0, _, _, _ => exact n3
  | 1, 0, _, _, _ => exact n4
  | 0, 2, _, _, _ => exact n5
  | 1, 2, _, _, _ => exact n6
  | e + 3, _, h, _, _ => omega
  | _, e + 3, _, h, _ => omega
/-- the handler that the pure machine finds is the machine's -/
theorem catch_ok (C : CX p l R s m args meth c A adK adV b Ls xs x) (hlaw : x.1.cls = "LetterAuctionLaw") {ex pc hd : Nat} (hex : ex < 3) : ∀ (pre t : List (Nat × Nat × Nat × Nat)), x.2.2.2.2.1 = pre ++ t → (∀ z ∈ t, z.2.2.2 ≠ 0) → (∀ z ∈ tableOf pre, covers z pc = false ∨ (z.catchType ≠ 0 ∧ ∃ nm : String, (Cond.classLink x.1.cls z.catchType nm).before args s = true ∧ va_Nc (exn ex) nm s)) → hfind t pc ex = some hd →
    ∀ {H : Heap} {locs : List Loc} {cells slots : Nat} {ce : Cell} {q9 : Addr} {ls : Array Slot} {rest : List Value}, H[q9]? = some ce → ce.vm = .none → s.vm.findClass (exn ex) = some ce.cls → W p l e R s m args below meth c H locs cells slots Q (F0 m hd ls [.ref q9]) → vx_W p l e R s m args below meth c H locs cells slots Q (F0 m pc ls rest) q9 := by
  intro pre t
  induction t generalizing pre with
  | nil => intro _ _ _ h; cases h
  | cons z t ih =>
    obtain ⟨za, zz, zh, zc⟩ := z
    intro hsp hnz hpre hf H locs cells slots ce q9 ls rest g1 g2 g3 kk
    unfold hfind at hf
    split at hf
    · rename_i hcov
      split at hf
      · rename_i e' he'
        obtain ⟨hcl, he3⟩ := cte_ok _ (lkN_mem he')
        split at hf
        · rename_i hee
          cases hf
          subst hee
          have hcast : (Cond.castable (exn e') (exn e')).before args s = true := by
            have hb : Cond.castable (exn e') (exn e') ∈ BT := by
              match e', hex with
              | 0, _ => exact List.mem_append_right _ (List.mem_of_getElem? (i := 6) rfl)
              | 1, _ => exact List.mem_append_right _ (List.mem_of_getElem? (i := 7) rfl)
              | 2, _ => exact List.mem_append_right _ (List.mem_of_getElem? (i := 8) rfl)
              | k + 3, h => omega
            exact va_Nw.use (BT_tables _ hb) (C.2.2.2.2.2.1.2.2.2.1 _ hb)
          exact vx_catch (own := x.1.cls) (name := exn e') (E := exn e') C.1.2.2.2.2 (tableOf pre) ⟨za, zz, hd, zc⟩ (tableOf t) (by rw [C.2.1.2.2.1, hsp]; simp [tableOf]) hpre (by simp [covers, hcov]) (hnz _ List.mem_cons_self) (by rw [hlaw]; exact C.wd hcl) hcast g1 g2 g3 kk
        · rename_i hee
          refine ih (pre ++ [(za, zz, zh, zc)]) (by rw [hsp]; simp) (fun w hw => hnz w (List.mem_cons_of_mem _ hw)) ?_ hf g1 g2 g3 kk
          intro w hw
          have hw2 : w ∈ tableOf pre ++ [⟨za, zz, zh, zc⟩] := by simpa [tableOf] using hw
          rcases List.mem_append.mp hw2 with hw | hw
          · exact hpre w hw
          · rw [List.mem_singleton.mp hw]
            exact Or.inr ⟨hnz _ List.mem_cons_self, exn e', by rw [hlaw]; exact C.wd hcl, C.2.2.2.2.2.1.2.2.2.2.1.of hex he3 (Ne.symm hee)⟩
      · cases hf
    · rename_i hcov
      refine ih (pre ++ [(za, zz, zh, zc)]) (by rw [hsp]; simp) (fun w hw => hnz w (List.mem_cons_of_mem _ hw)) ?_ hf g1 g2 g3 kk
      intro w hw
      have hw2 : w ∈ tableOf pre ++ [⟨za, zz, zh, zc⟩] := by simpa [tableOf] using hw
      rcases List.mem_append.mp hw2 with hw | hw
      · exact hpre w hw
      · rw [List.mem_singleton.mp hw]
        refine Or.inl ?_
        simp only [covers]
        by_cases h1 : za ≤ pc
        · have h2 : ¬ pc < zz := fun h2 => hcov ⟨h1, h2⟩
          simp [h2]
        · simp [h1]
end H1
theorem layA_NJ : ∀ (args : List PV), (∀ a ∈ args, pcat a = 1) → ∀ (i : Nat) (z : Int), (layA args)[i]? ≠ some (some (pJ z))
  | [], _, i, z => by simp [layA]
  | a :: args, h, i, z => by
    have ha := h a List.mem_cons_self
    have e : layA (a :: args) = some a :: layA args := by rcases a with x | x | x <;> first | rfl | (simp [pcat] at ha)
    rw [e]
    cases i with
    | zero => intro h2; cases h2; simp [pcat] at ha
    | succ i => exact layA_NJ args (fun b hb => h b (List.mem_cons_of_mem _ hb)) i z
theorem exlt : ∀ (f mi : Nat) (σ : PS) (o : PO) (lay' : PY) (nx' : Nat) (h' : PC), prun f mi σ = some (o, lay', nx', h') → ∀ ex, o = Sum.inr ex → ex < 3 := by
  intro f
  induction f with
  | zero => intro mi σ o lay' nx' h' h; cases h
  | succ f ih =>
    intro mi σ o lay' nx' h' h
    unfold prun at h
    split at h
    · cases h
    · rename_i q hq
      split at h
      · cases h
      · rename_i σ' hs
        exact ih _ _ _ _ _ _ h
      · rename_i mj args pc' st' hs
        split at h
        · cases h
        split at h
        · cases h
        · rename_i v lay1 nx1 h1 hr
          split at h
          · cases h
          · exact ih _ _ _ _ _ _ h
        · rename_i e lay1 nx1 h1 hr
          split at h
          · cases h
          · split at h
            · cases h; exact ih _ _ _ _ _ _ hr
            · split at h
              · cases h
              · exact ih _ _ _ _ _ _ h
      · cases h; intro ex he; cases he
      · rename_i e hs
        cases h
        intro ex he
        cases he
        exact thr_lt hs
/-- THE PURE MACHINE'S RUNS ARE THE MACHINE'S -/
theorem sound (hok : AllOk) (l : Launch) (htr : l.stackTraces = false) : ∀ (f mi : Nat) (σ : PS) (o : PO) (lay' : PY) (nx' : Nat) (h' : PC) (x : MI), prun f mi σ = some (o, lay', nx', h') → mtab[mi]? = some x →
    ∀ (p : Program) (e : Env) (R : Room) (s : State) (m : MethodId) (args : Array Value) (below : List Frame) (meth : Method) (c : Code) (D : va_G) (A : Nat → Prop) (adK adV : Nat → Nat) (b Ls : Nat) (xs : Nat → Int32) (c0 s0 mc ms : Nat) (ads0 : List Nat), CX p l R s m args meth c A adK adV b Ls xs x → c0 + mc = lay'.length + nx' → s0 + ms = szs lay' + 6 * nx' → mc ≤ R.cells → ms ≤ R.slots →
      Go p l e R s m args below meth c (vx_MQ below (QcM D A Ls xs ads0 lay' h' o) (XcM D A Ls xs ads0 lay' h' o) args s mc ms A) D A adK b Ls xs x.2.2.1 x.2.2.2.2.2.2 c0 s0 ads0 σ := by
  intro f
  induction f with
  | zero => intro mi σ o lay' nx' h' x h; cases h
  | succ f ih =>
    intro mi σ o lay' nx' h' x h hx p e R s m args below meth c D A adK adV b Ls xs c0 s0 mc ms ads0 C h1 h2 h3 h4
    obtain ⟨hck, hdep, hpl, hhs⟩ := hok mi x hx
    unfold prun at h
    split at h
    · cases h
    · rename_i q hq
      have hc := hck _ _ hq
      split at h
      · cases h
      · rename_i σ' hs
        have hm := run_mono _ _ _ _ _ _ _ h
        exact d_next C hdep hc hs ⟨by show mC σ' ≤ _; omega, by show mS σ' ≤ _; omega⟩ (ih _ _ _ _ _ _ _ h hx _ _ _ _ _ _ _ _ _ _ _ _ _ _ _ _ _ _ _ _ _ C h1 h2 h3 h4)
      · rename_i mj cargs pc' st' hs
        split at h
        · cases h
        rename_i hpa
        have hpa : pargs mj cargs = true := by simpa using hpa
        unfold pargs at hpa
        split at hpa
        · rename_i y hy
          rw [Bool.and_eq_true, decide_eq_true_eq] at hpa
          obtain ⟨hent, hall⟩ := hpa
          have hnl : pnL mj = y.2.2.1 := by unfold pnL; rw [hy]
          have hnj : NJ y.2.2.2.2.2.2 (entL cargs y.2.2.1) := by
            intro hj i z hz
            rw [hj, Bool.false_or, List.all_eq_true] at hall
            unfold entL at hz
            by_cases hi : i < (layA cargs).length
            · rw [List.getElem?_append_left hi] at hz
              exact layA_NJ cargs (fun a ha => of_decide_eq_true (hall a ha)) i z hz
            · rw [List.getElem?_append_right (by omega)] at hz
              have := List.mem_of_getElem? hz
              simp at this
          have hctr : ∀ (o1 : PO) (lay1 : PY) (nx1 : Nat) (hh1 : PC), prun f mj (0, entL cargs (pnL mj), [], σ.2.2.2.1, σ.2.2.2.2.1, σ.2.2.2.2.2) = some (o1, lay1, nx1, hh1) → ∀ (mc1 ms1 : Nat), σ.2.2.2.1.length + σ.2.2.2.2.1 + mc1 = lay1.length + nx1 → szs σ.2.2.2.1 + 6 * σ.2.2.2.2.1 + ms1 = szs lay1 + 6 * nx1 → Ctr l D adK adV b Ls xs y cargs σ.2.2.2.1 σ.2.2.2.2.2 mc1 ms1 o1 lay1 hh1 := by
            intro o1 lay1 nx1 hh1 hr mc1 ms1 e1 e2 ws tys vs sz k1 k2 k3
            rw [hnl] at hr
            exact metM_of (nx := σ.2.2.2.2.1) (hok mj y hy).2.2.1 htr hent hnj k1 k2 k3 (fun p e s m av below meth c _ C' => ih _ _ _ _ _ _ _ hr hy _ _ _ _ _ _ _ _ _ _ _ _ _ _ _ _ _ _ _ _ _ C' e1 e2 (Nat.le_refl _) (Nat.le_refl _))
          split at h
          · cases h
          · rename_i v lay1 nx1 hh1 hr
            have m1 := run_mono _ _ _ _ _ _ _ hr
            split at h
            · cases h
            · rename_i hpi
              have m2 := run_mono _ _ _ _ _ _ _ h
              have m2a : lay1.length + nx1 ≤ lay'.length + nx' := m2.1
              have m2b : szs lay1 + 6 * nx1 ≤ szs lay' + 6 * nx' := m2.2
              have m1a : σ.2.2.2.1.length + σ.2.2.2.2.1 ≤ lay1.length + nx1 := m1.1
              have m1b : szs σ.2.2.2.1 + 6 * σ.2.2.2.2.1 ≤ szs lay1 + 6 * nx1 := m1.2
              refine d_call (nx1 := nx1) (mc := lay1.length + nx1 - (σ.2.2.2.1.length + σ.2.2.2.2.1)) (ms := szs lay1 + 6 * nx1 - (szs σ.2.2.2.1 + 6 * σ.2.2.2.2.1)) C hc hs hy (fun hp => ?_) (hctr _ _ _ _ hr _ _ (by omega) (by omega)) (by omega) (by omega) (by omega) (by omega) (fun w hw => ?_) (fun ex he => by cases he)
              · by_cases hv : v = none
                · rw [hv]
                · exact absurd ⟨hp, hv⟩ hpi
              · cases hw
                exact ih _ _ _ _ _ _ _ h hx _ _ _ _ _ _ _ _ _ _ _ _ _ _ _ _ _ _ _ _ _ C h1 h2 h3 h4
          · rename_i ex lay1 nx1 hh1 hr
            have m1 := run_mono _ _ _ _ _ _ _ hr
            have hex := exlt _ _ _ _ _ _ _ hr ex rfl
            have m1a : σ.2.2.2.1.length + σ.2.2.2.2.1 ≤ lay1.length + nx1 := m1.1
            have m1b : szs σ.2.2.2.1 + 6 * σ.2.2.2.2.1 ≤ szs lay1 + 6 * nx1 := m1.2
            have hphh : phh mi = x.2.2.2.2.1 := by unfold phh; rw [hx]
            rw [hphh] at h
            split at h
            · cases h
            · rename_i hpi
              split at h
              · rename_i hh0
                cases h
                refine d_call (nx1 := nx') (mc := lay'.length + nx' - (σ.2.2.2.1.length + σ.2.2.2.2.1)) (ms := szs lay' + 6 * nx' - (szs σ.2.2.2.1 + 6 * σ.2.2.2.2.1)) C hc hs hy (fun hp => absurd hp hpi) (hctr _ _ _ _ hr _ _ (by omega) (by omega)) (by omega) (by omega) (by omega) (by omega) (fun w hw => by cases hw) (fun ex2 he => ?_)
                cases he
                intro ads1 H1 locs1 cells1 slots1 ce q9 ls rest hads hW hL hN g1 g2 g3
                obtain ⟨ws, tys, k1, k2, k3, k4, k5, k6, k7, k8, k9⟩ := hW
                refine vx_out (E := exn ex) ?_ C.2.1.2.1 g1 g2 g3 (fun t ht hal => ?_) k5.2.2 (by omega) (by omega)
                · rw [C.2.1.2.2.1, hh0]
                  intro z hz
                  simp [tableOf] at hz
                · exact ⟨(ws, tys), trivial, ⟨rfl, by rw [ht]; exact k3, k2.moved hal, k4, k6, k7, by rw [k1]; exact hads⟩, k5.F ht⟩
              · rename_i hh0
                obtain ⟨hlaw, hjf, hnz⟩ := hhs hh0
                split at h
                · cases h
                · rename_i hd hfd
                  have m2 := run_mono _ _ _ _ _ _ _ h
                  have m2a : lay1.length + nx1 ≤ lay'.length + nx' := m2.1
                  have m2b : szs lay1 + 6 * nx1 ≤ szs lay' + 6 * nx' := m2.2
                  refine d_call (nx1 := nx1) (mc := lay1.length + nx1 - (σ.2.2.2.1.length + σ.2.2.2.2.1)) (ms := szs lay1 + 6 * nx1 - (szs σ.2.2.2.1 + 6 * σ.2.2.2.2.1)) C hc hs hy (fun hp => absurd hp hpi) (hctr _ _ _ _ hr _ _ (by omega) (by omega)) (by omega) (by omega) (by omega) (by omega) (fun w hw => by cases hw) (fun ex2 he => ?_)
                  cases he
                  intro ads1 H1 locs1 cells1 slots1 ce q9 ls rest hads hW hL hN g1 g2 g3
                  refine catch_ok C hlaw hex [] x.2.2.2.2.1 rfl hnz (fun z hz => by simp [tableOf] at hz) hfd g1 g2 g3 ?_
                  exact ih _ _ _ _ _ _ _ h hx _ _ _ _ _ _ _ _ _ _ _ _ _ _ _ _ _ _ _ _ _ C h1 h2 h3 h4 ads1 H1 locs1 cells1 slots1 ls [.ref q9] hads hW hL hN ⟨Or.inr (Or.inr (Or.inr ⟨rfl, q9, rfl⟩)), trivial⟩
        · cases hpa
      · rename_i v hs
        cases h
        exact d_end C hc hs h3 h4 rfl h1 h2
      · rename_i ex hs
        cases h
        exact d_end C hc hs h3 h4 rfl h1 h2
