def iniv (a k : Int) : Int := if a = 2 then (if k = 2 then -1 else 0) else if a = 164 then (if k = 0 then 1 else if k = 3 then 4 else if k = 4 then 1 else 0) else if a = 169 then -1 else if a = 170 then -1 else if a = 178 then (if k = 12 then -1 else 0) else if a = 179 then (if k = 0 then 1 else if k = 2 then 4 else if k = 3 then 1 else 0) else 0
def iniC : List (Int × Nat) := [(2, 9), (9, 8), (15, 8), (16, 2401), (21, 3), (144, 15), (145, 4), (146, 4), (147, 4), (148, 4), (149, 4), (150, 24), (151, 60), (152, 6), (153, 80), (164, 5), (165, 4), (166, 4), (167, 4), (168, 4), (169, 24), (170, 96), (178, 30), (179, 164), (180, 195), (194, 2)]
def ctor0 : Option PS := stepsB 30 3000 257 23 (0, entL [pR (-1000)] 8, [], [], 0, (fun _ _ => 0, fun _ _ => 0, fun _ => 0))
def law0 : PL := [some (pR (-1000)), some (pR 1), some (pR 178), some (pR 195), some (pI 0), none, none, none]
def ctorOk : Bool := match ctor0 with
  | none => false
  | some (pc, L, st, lay, nx, h, r, _) => decide (pc = 23) && decide (L = law0) && decide (st = []) && decide (lay = LY) && decide (nx = 0) && crT.all (fun q => decide (r q.1 q.2.1 = q.2.2)) && decide (r 1 6 = 164) && decide (r 1 7 = 171) && decide (r 15 4 = 19) && decide (r 15 5 = 20) && iniC.all (fun q => (List.range q.2).all (fun k => decide (h q.1 k = iniv q.1 k)))
theorem ctorOk_t : ctorOk = true := by decide +kernel
def Ini (h r : PF) : Prop := WFr r ∧ r 1 6 = 164 ∧ r 1 7 = 171 ∧ r 15 4 = 19 ∧ r 15 5 = 20 ∧ ∀ q ∈ iniC, ∀ k : Int, 0 ≤ k → k < q.2 → h q.1 k = iniv q.1 k
theorem ctor_ini : ∃ h r s0, ctor0 = some (23, law0, [], LY, 0, h, r, s0) ∧ Ini h r := by
  have h := ctorOk_t
  unfold ctorOk at h
  cases hc : ctor0 with
  | none => rw [hc] at h; cases h
  | some z =>
    obtain ⟨pc, L, st, lay, nx, hh, r, s0⟩ := z
    rw [hc] at h
    simp only [Bool.and_eq_true, decide_eq_true_eq, List.all_eq_true, List.mem_range] at h
    obtain ⟨⟨⟨⟨⟨⟨⟨⟨⟨⟨rfl, rfl⟩, rfl⟩, rfl⟩, rfl⟩, h1⟩, h2⟩, h3⟩, h4⟩, h5⟩, h6⟩ := h
    refine ⟨hh, r, s0, rfl, h1, h2, h3, h4, h5, ?_⟩
    intro q hq k hk hk2
    have := h6 q hq k.toNat (by omega)
    rwa [Int.toNat_of_nonneg hk] at this
/-- the law begins at its loop, with the two sides made -/
theorem ctor_run {s : Int → Int} {Q : PO → PY → Nat → PC → Prop} (H : ∀ h r, Ini h r → Wp 257 23 law0 [] LY 0 (h, r, s) Q) : Wp 257 0 (entL [pR (-1000)] 8) [] [] 0 (fun _ _ => 0, fun _ _ => 0, s) Q := by
  obtain ⟨h, r, s0, hc, hi⟩ := ctor_ini
  obtain ⟨f, o, l1, n1, h1, hr, hQ⟩ := H h r hi
  obtain ⟨g, hg⟩ := stepsB_s s _ _ _ _ _ _ hc f _ hr
  exact ⟨g, o, l1, n1, h1, hg, hQ⟩
