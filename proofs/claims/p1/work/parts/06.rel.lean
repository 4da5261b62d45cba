/-! HOW THE PURE MACHINE'S STATES STAND FOR THE MACHINE'S -/
def fkd : FieldType → Nat
  | .int => 0 | .boolean => 1 | .long => 2 | .object _ => 3 | .array _ => 3 | _ => 9
def tyOf (ci k : Nat) : FieldType := match ci with
  | 0 => tyX0 k | 1 => tyX1 k | 2 => tyX2 k | 3 => tyX3 k | 4 => tyX4 k | 5 => tyX5 k | 6 => tyX6 k | 7 => tyX7 k | 8 => tyX8 k | _ => .int
def RRf (ads : List Nat) (g : Int) (v : Value) : Prop := ∃ (i a : Nat), ads[i]? = some a ∧ g = (i : Int) + 1 ∧ v = .ref a
def VR (ads : List Nat) (adK : Nat → Nat) (b : Nat) : PV → Value → Prop
  | Sum.inl x, v => ∃ y : Int32, v = .int y ∧ y.toInt = x
  | Sum.inr (Sum.inl x), v => ∃ y : Int64, v = .long y ∧ y.toInt = x
  | Sum.inr (Sum.inr x), v => RRf ads x v ∨ (∃ i : Nat, i < 7 ∧ x = -((i : Int) + 1) ∧ v = .ref (adK i)) ∨ (x = -1000 ∧ v = .ref b) ∨ (x = -2000 ∧ ∃ a : Nat, v = .ref a)
def FR (ads : List Nat) (k : Nat) (g r : Int) (v : Value) : Prop := match k with
  | 0 => ∃ y : Int32, v = .int y ∧ y.toInt = g
  | 1 => ∃ y : Int32, v = .int y ∧ y.toInt = g
  | 2 => ∃ y : Int64, v = .long y ∧ y.toInt = g
  | 3 => (r = 0 ∧ v = .null) ∨ RRf ads r v
  | _ => False
def CRi (tys : List (ClassId × FieldType)) (ty : FieldType) (n : Nat) (g : Int → Int) (e : va_E) : Prop := ∃ (cA : ClassId) (t0 : Nat) (f : Nat → Int32), e = .inl (cA, n, .inl f) ∧ tys[t0]? = some (cA, ty) ∧ ∀ j : Nat, (f j).toInt = g j
def CRj (tys : List (ClassId × FieldType)) (n : Nat) (g : Int → Int) (e : va_E) : Prop := ∃ (cA : ClassId) (t0 : Nat) (f : Nat → Int64), e = .inl (cA, n, .inr (.inl f)) ∧ tys[t0]? = some (cA, .long) ∧ ∀ j : Nat, (f j).toInt = g j
def CRo (ads : List Nat) (ci : Nat) (g r : Int → Int) (e : va_E) : Prop := ∃ fs : List Value, e = .inr (ci, fs) ∧ fs.length = pN ci ∧ ci < 9 ∧ ∀ k : Nat, k < pN ci → ∃ v, fs[k]? = some v ∧ FR ads (fkd (tyOf ci k)) (g k) (r k) v
def CRq (ads : List Nat) (tys : List (ClassId × FieldType)) (n : Nat) (g : Int → Int) (e : va_E) : Prop := ∃ (cA : ClassId) (t0 : Nat) (f : Nat → Option Nat), e = .inl (cA, n, .inr (.inr (.inr (.inr f)))) ∧ tys[t0]? = some (cA, .object "LetterAuction$Standing") ∧ ∀ j : Nat, (g j = 0 ∧ f j = none) ∨ ∃ (i a : Nat), ads[i]? = some a ∧ g j = (i : Int) + 1 ∧ f j = some a
def CRl (ads : List Nat) (tys : List (ClassId × FieldType)) (q : Nat × Nat) (g r : Int → Int) (e : va_E) : Prop := match q.1 with
  | 0 => CRo ads q.2 g r e
  | 1 => CRi tys .int q.2 g e
  | 2 => CRj tys q.2 g e
  | 3 => CRi tys .byte q.2 g e
  | 4 => CRi tys .boolean q.2 g e
  | 5 => CRq ads tys q.2 r e
  | _ => False
def HR (tys : List (ClassId × FieldType)) (ws : va_W) (lay : PY) (h : PC) : Prop := ws.length = lay.length ∧ ∀ (i : Nat) (q : Nat × Nat), lay[i]? = some q → ∃ (a : Nat) (e : va_E), ws[i]? = some (a, e) ∧ CRl (ws.map (fun z => z.1)) tys q (h.1 ((i : Int) + 1)) (h.2.1 ((i : Int) + 1)) e
def SCr (Ls : Nat) (xs : Nat → Int32) (h : PC) : Prop := (∀ j : Nat, j < Ls → h.2.2 j = (xs j).toInt) ∧ h.2.2 (-1) = Ls
/-- the world at a point: its cells stand for layouts and contents -/
def WRel (D : va_G) (s : State) (A : Nat → Prop) (Ls : Nat) (xs : Nat → Int32) (c0 s0 : Nat) (ads : List Nat) (lay : PY) (nx : Nat) (h : PC) (H : Heap) (locs : List Loc) (cells slots : Nat) : Prop :=
  ∃ (ws : va_W) (tys : List (ClassId × FieldType)), ws.map (fun z => z.1) = ads ∧ va_K D vwCl tys s ∧ va_P D vwCl ws H ∧ va_D A ws ∧ va_S A s.heap H locs ∧ HR tys ws lay h ∧ SCr Ls xs h ∧ c0 + cells = lay.length + nx ∧ s0 + slots = szs lay + 6 * nx
def LRel (ads : List Nat) (adK : Nat → Nat) (b nL : Nat) (L : PL) (ls : Array Slot) : Prop := L.length = nL ∧ ∃ lv : List (Nat × Value), lv_has ls nL lv ∧ ∀ (i : Nat) (q : PV), L[i]? = some (some q) → ∃ v, VR ads adK b q v ∧ (i, v) ∈ lv
def TRel (ads : List Nat) (adK : Nat → Nat) (b : Nat) : List PV → List Value → Prop
  | [], [] => True
  | q :: st, v :: vs => VR ads adK b q v ∧ TRel ads adK b st vs
  | _, _ => False
/-- no long in a local, where the method keeps none -/
def NJ (hj : Bool) (L : PL) : Prop := hj = false → ∀ (i : Nat) (x : Int), L[i]? ≠ some (some (pJ x))
def Go (p : Program) (l : Launch) (e : Env) (R : Room) (s : State) (m : MethodId) (args : Array Value) (below : List Frame) (meth : Method) (c : Code) (Q : State → Prop) (D : va_G) (A : Nat → Prop) (adK : Nat → Nat) (b Ls : Nat) (xs : Nat → Int32) (nL : Nat) (hj : Bool) (c0 s0 : Nat) (ads0 : List Nat) (σ : PS) : Prop :=
  ∀ (ads : List Nat) (H : Heap) (locs : List Loc) (cells slots : Nat) (ls : Array Slot) (st : List Value), ads0 <+: ads → WRel D s A Ls xs c0 s0 ads σ.2.2.2.1 σ.2.2.2.2.1 σ.2.2.2.2.2 H locs cells slots → LRel ads adK b nL σ.2.1 ls → NJ hj σ.2.1 → TRel ads adK b σ.2.2.1 st → W p l e R s m args below meth c H locs cells slots Q (F0 m σ.1 ls st)
theorem TRel.cons {ads : List Nat} {adK : Nat → Nat} {b : Nat} {q : PV} {st : List PV} {vs : List Value} (h : TRel ads adK b (q :: st) vs) : ∃ v vs', vs = v :: vs' ∧ VR ads adK b q v ∧ TRel ads adK b st vs' := by
  cases vs with
  | nil => exact h.elim
  | cons v vs => exact ⟨v, vs, rfl, h.1, h.2⟩
theorem TRel.nil {ads : List Nat} {adK : Nat → Nat} {b : Nat} {vs : List Value} (h : TRel ads adK b [] vs) : vs = [] := by
  cases vs with
  | nil => rfl
  | cons v vs => exact h.elim
theorem TRel.consI {ads : List Nat} {adK : Nat → Nat} {b : Nat} {x : Int} {st : List PV} {vs : List Value} (h : TRel ads adK b (Sum.inl x :: st) vs) : ∃ (y : Int32) (vs' : List Value), vs = .int y :: vs' ∧ y.toInt = x ∧ TRel ads adK b st vs' := by
  obtain ⟨v, vs', rfl, ⟨y, rfl, hy⟩, h2⟩ := h.cons
  exact ⟨y, vs', rfl, hy, h2⟩
theorem TRel.consJ {ads : List Nat} {adK : Nat → Nat} {b : Nat} {x : Int} {st : List PV} {vs : List Value} (h : TRel ads adK b (Sum.inr (Sum.inl x) :: st) vs) : ∃ (y : Int64) (vs' : List Value), vs = .long y :: vs' ∧ y.toInt = x ∧ TRel ads adK b st vs' := by
  obtain ⟨v, vs', rfl, ⟨y, rfl, hy⟩, h2⟩ := h.cons
  exact ⟨y, vs', rfl, hy, h2⟩
theorem RRf.ref {ads : List Nat} {g : Int} {v : Value} (h : RRf ads g v) : ∃ a, v = .ref a := by
  obtain ⟨i, a, -, -, rfl⟩ := h
  exact ⟨a, rfl⟩
theorem VR.ref {ads : List Nat} {adK : Nat → Nat} {b : Nat} {x : Int} {v : Value} (h : VR ads adK b (Sum.inr (Sum.inr x)) v) : ∃ a, v = .ref a := by
  rcases h with h | ⟨i, -, -, rfl⟩ | ⟨-, rfl⟩ | ⟨-, a, rfl⟩
  · exact h.ref
  · exact ⟨_, rfl⟩
  · exact ⟨_, rfl⟩
  · exact ⟨a, rfl⟩
theorem VR.cat {ads : List Nat} {adK : Nat → Nat} {b : Nat} {q : PV} {v : Value} (h : VR ads adK b q v) : v.category = pcat q := by
  rcases q with x | x | x
  · obtain ⟨y, rfl, -⟩ := h; rfl
  · obtain ⟨y, rfl, -⟩ := h; rfl
  · obtain ⟨a, rfl⟩ := VR.ref h; rfl
theorem TRel.cats {ads : List Nat} {adK : Nat → Nat} {b : Nat} : ∀ {st : List PV} {vs : List Value}, TRel ads adK b st vs → (vs.map fun v => v.category).sum = pcats st
  | [], vs, h => by rw [h.nil]; rfl
  | q :: st, vs, h => by
    obtain ⟨v, vs', rfl, h1, h2⟩ := h.cons
    simp only [List.map_cons, List.sum_cons, pcats]
    rw [h1.cat, h2.cats]
    rfl
theorem pfx_get {ads ads' : List Nat} (h : ads <+: ads') {i a : Nat} (hi : ads[i]? = some a) : ads'[i]? = some a := by
  obtain ⟨ext, rfl⟩ := h
  rw [List.getElem?_append_left (List.getElem?_eq_some_iff.mp hi).1]
  exact hi
theorem RRf.up {ads ads' : List Nat} (h : ads <+: ads') {g : Int} {v : Value} (hr : RRf ads g v) : RRf ads' g v := by
  obtain ⟨i, a, h1, h2⟩ := hr
  exact ⟨i, a, pfx_get h h1, h2⟩
theorem VR.up {ads ads' : List Nat} (h : ads <+: ads') {adK : Nat → Nat} {b : Nat} {q : PV} {v : Value} (hr : VR ads adK b q v) : VR ads' adK b q v := by
  rcases q with x | x | x
  · exact hr
  · exact hr
  · rcases hr with h1 | h1 | h1
    · exact Or.inl (h1.up h)
    · exact Or.inr (Or.inl h1)
    · exact Or.inr (Or.inr h1)
theorem TRel.up {ads ads' : List Nat} (h : ads <+: ads') {adK : Nat → Nat} {b : Nat} : ∀ {st : List PV} {vs : List Value}, TRel ads adK b st vs → TRel ads' adK b st vs
  | [], vs, hr => by rw [hr.nil]; trivial
  | q :: st, vs, hr => by
    obtain ⟨v, vs', rfl, h1, h2⟩ := hr.cons
    exact ⟨h1.up h, h2.up h⟩
theorem LRel.up {ads ads' : List Nat} (h : ads <+: ads') {adK : Nat → Nat} {b nL : Nat} {L : PL} {ls : Array Slot} (hr : LRel ads adK b nL L ls) : LRel ads' adK b nL L ls := by
  obtain ⟨h0, lv, h1, h2⟩ := hr
  refine ⟨h0, lv, h1, fun i q hq => ?_⟩
  obtain ⟨v, h3, h4⟩ := h2 i q hq
  exact ⟨v, h3.up h, h4⟩
theorem LRel.load {ads : List Nat} {adK : Nat → Nat} {b nL : Nat} {L : PL} {ls : Array Slot} (hr : LRel ads adK b nL L ls) {i : Nat} {q : PV} (hq : getL L i = some q) : ∃ v, VR ads adK b q v ∧ ls[i]? = some (.val v) := by
  obtain ⟨h0, lv, h1, h2⟩ := hr
  have hq' : L[i]? = some (some q) := by
    unfold getL at hq
    cases hc : L[i]? with
    | none => rw [hc] at hq; cases hq
    | some z => rw [hc] at hq; simp at hq; rw [hq]
  obtain ⟨v, h3, h4⟩ := h2 i q hq'
  exact ⟨v, h3, h1.2.2 _ h4⟩
theorem clrL_length (L : PL) (i : Nat) : (clrL L i).length = L.length := by
  cases i <;> simp [clrL]
theorem clrL_get {L : PL} {i j : Nat} {q : PV} (h : (clrL L i)[j]? = some (some q)) : L[j]? = some (some q) ∧ ¬ (j + 1 = i ∧ pcat q = 2) := by
  cases i with
  | zero => exact ⟨h, fun z => absurd z.1 (by omega)⟩
  | succ i =>
    simp only [clrL] at h
    by_cases hij : i = j
    · subst hij
      by_cases hl : i < L.length
      · rw [List.getElem?_set_self hl] at h
        have h1 : clr1 (L[i]?.getD none) = some q := Option.some.inj h
        rw [List.getElem?_eq_getElem hl] at h1 ⊢
        simp only [Option.getD_some] at h1
        cases hc : L[i] with
        | none => rw [hc] at h1; simp [clr1] at h1
        | some z =>
          rw [hc] at h1
          rcases z with x | x | x
          · simp only [clr1, Option.some.injEq] at h1; subst h1; exact ⟨rfl, fun z => by simp [pcat] at z⟩
          · simp [clr1] at h1
          · simp only [clr1, Option.some.injEq] at h1; subst h1; exact ⟨rfl, fun z => by simp [pcat] at z⟩
      · rw [List.getElem?_eq_none (by simp; omega)] at h
        cases h
    · rw [List.getElem?_set_ne hij] at h
      exact ⟨h, fun z => hij (by omega)⟩
/-- a store of a value of one word -/
theorem LRel.store {ads : List Nat} {adK : Nat → Nat} {b nL : Nat} {L : PL} {ls' : Array Slot} {hj : Bool} {lv : List (Nat × Value)} (h0 : L.length = nL) (h2 : ∀ (i : Nat) (q : PV), L[i]? = some (some q) → ∃ v, VR ads adK b q v ∧ (i, v) ∈ lv) (hn : NJ hj L) {q : PI} {pv : PV} {v : Value} (hv : VR ads adK b pv v) (hc : pcat pv = 1) (hq : q.2.2.1 = 0 → hj = false)
    (hls : lv_has ls' nL ((q.2.1, v) :: lv.filter (fun z => !(z.1 == q.2.1) && !(z.1 + 1 == q.2.1 && z.2.category == 2)))) : LRel ads adK b nL (setQ q L pv) ls' ∧ NJ hj (setQ q L pv) := by
  have key : ∀ (j : Nat) (z : PV), (setQ q L pv)[j]? = some (some z) → (j = q.2.1 ∧ z = pv) ∨ (j ≠ q.2.1 ∧ L[j]? = some (some z) ∧ ¬ (j + 1 = q.2.1 ∧ pcat z = 2)) := by
    intro j z hz
    unfold setQ at hz
    split at hz
    · rename_i hq0
      by_cases hij : q.2.1 = j
      · subst hij
        by_cases hl : q.2.1 < L.length
        · rw [List.getElem?_set_self hl] at hz
          exact Or.inl ⟨rfl, (Option.some.inj (Option.some.inj hz)).symm⟩
        · rw [List.getElem?_eq_none (by simp; omega)] at hz; cases hz
      · rw [List.getElem?_set_ne hij] at hz
        refine Or.inr ⟨Ne.symm hij, hz, fun zz => ?_⟩
        rcases z with x | x | x
        · simp [pcat] at zz
        · exact hn (hq hq0) j x hz
        · simp [pcat] at zz
    · by_cases hij : q.2.1 = j
      · subst hij
        by_cases hl : q.2.1 < (clrL L q.2.1).length
        · rw [List.getElem?_set_self hl] at hz
          exact Or.inl ⟨rfl, (Option.some.inj (Option.some.inj hz)).symm⟩
        · rw [List.getElem?_eq_none (by simp; omega)] at hz; cases hz
      · rw [List.getElem?_set_ne hij] at hz
        obtain ⟨z1, z2⟩ := clrL_get hz
        exact Or.inr ⟨Ne.symm hij, z1, z2⟩
  refine ⟨⟨?_, _, hls, fun i z hz => ?_⟩, fun hjf i x hz => ?_⟩
  · unfold setQ; split <;> simp [clrL_length, h0]
  · rcases key i z hz with ⟨rfl, rfl⟩ | ⟨hne, hL, hnn⟩
    · exact ⟨v, hv, List.mem_cons_self⟩
    · obtain ⟨w, hw1, hw2⟩ := h2 i z hL
      refine ⟨w, hw1, List.mem_cons_of_mem _ (List.mem_filter.mpr ⟨hw2, ?_⟩)⟩
      have hcat : w.category = pcat z := hw1.cat
      simp only [Bool.and_eq_true, Bool.not_eq_true', beq_eq_false_iff_ne, ne_eq, Bool.and_eq_false_imp, beq_iff_eq]
      exact ⟨hne, fun hi2 => by rw [hcat]; exact fun h9 => hnn ⟨hi2, h9⟩⟩
  · rcases key i _ hz with ⟨-, rfl⟩ | ⟨-, hL, -⟩
    · simp [pcat] at hc
    · exact hn hjf i x hL
/-- a store of a long -/
theorem LRel.storeJ {ads : List Nat} {adK : Nat → Nat} {b nL : Nat} {L : PL} {ls' : Array Slot} {lv : List (Nat × Value)} (h0 : L.length = nL) (h2 : ∀ (i : Nat) (q : PV), L[i]? = some (some q) → ∃ v, VR ads adK b q v ∧ (i, v) ∈ lv) {i0 : Nat} {pv : PV} {v : Value} (hv : VR ads adK b pv v)
    (hls : lv_has ls' nL ((i0, v) :: lv.filter (fun z => !(z.1 == i0) && (!(z.1 == i0 + 1) && !(z.1 + 1 == i0 && z.2.category == 2))))) : LRel ads adK b nL (setJ L i0 pv) ls' := by
  have key : ∀ (j : Nat) (z : PV), (setJ L i0 pv)[j]? = some (some z) → (j = i0 ∧ z = pv) ∨ (j ≠ i0 ∧ j ≠ i0 + 1 ∧ L[j]? = some (some z) ∧ ¬ (j + 1 = i0 ∧ pcat z = 2)) := by
    intro j z hz
    unfold setJ at hz
    by_cases h1 : i0 + 1 = j
    · subst h1
      by_cases hl : i0 + 1 < ((clrL L i0).set i0 (some pv)).length
      · rw [List.getElem?_set_self hl] at hz; cases hz
      · rw [List.getElem?_eq_none (by simp at hl ⊢; omega)] at hz; cases hz
    · rw [List.getElem?_set_ne h1] at hz
      by_cases hij : i0 = j
      · subst hij
        by_cases hl : i0 < (clrL L i0).length
        · rw [List.getElem?_set_self hl] at hz
          exact Or.inl ⟨rfl, (Option.some.inj (Option.some.inj hz)).symm⟩
        · rw [List.getElem?_eq_none (by simp; omega)] at hz; cases hz
      · rw [List.getElem?_set_ne hij] at hz
        obtain ⟨z1, z2⟩ := clrL_get hz
        exact Or.inr ⟨Ne.symm hij, Ne.symm h1, z1, z2⟩
  refine ⟨by unfold setJ; simp [clrL_length, h0], _, hls, fun i z hz => ?_⟩
  rcases key i z hz with ⟨rfl, rfl⟩ | ⟨hne, hne1, hL, hnn⟩
  · exact ⟨v, hv, List.mem_cons_self⟩
  · obtain ⟨w, hw1, hw2⟩ := h2 i z hL
    refine ⟨w, hw1, List.mem_cons_of_mem _ (List.mem_filter.mpr ⟨hw2, ?_⟩)⟩
    have hcat : w.category = pcat z := hw1.cat
    simp only [Bool.and_eq_true, Bool.not_eq_true', beq_eq_false_iff_ne, ne_eq, Bool.and_eq_false_imp, beq_iff_eq]
    exact ⟨hne, hne1, fun hi2 => by rw [hcat]; exact fun h9 => hnn ⟨hi2, h9⟩⟩
