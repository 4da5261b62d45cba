/-! WORDS: states side by side, as digits of a code -/
def pw7 (m : Int) : Int := if m ≤ 0 then 1 else if m = 1 then 7 else if m = 2 then 49 else if m = 3 then 343 else 2401
def pw6 (m : Int) : Int := if m ≤ 0 then 1 else if m = 1 then 6 else if m = 2 then 36 else if m = 3 then 216 else 1296
def r7 (c m : Int) : Int := if m ≤ 0 then c else if m = 1 then c / 7 else if m = 2 then c / 49 else if m = 3 then c / 343 else c / 2401
def d7 (c m : Int) : Int := r7 c m % 7
theorem pw7_0 : pw7 0 = 1 := by decide
theorem pw7_1 : pw7 1 = 7 := by decide
theorem pw7_2 : pw7 2 = 49 := by decide
theorem pw7_3 : pw7 3 = 343 := by decide
theorem pw7_4 : pw7 4 = 2401 := by decide
theorem pw6_0 : pw6 0 = 1 := by decide
theorem pw6_1 : pw6 1 = 6 := by decide
theorem pw6_2 : pw6 2 = 36 := by decide
theorem pw6_3 : pw6 3 = 216 := by decide
theorem pw6_4 : pw6 4 = 1296 := by decide
theorem r7_0 {c : Int} : r7 c 0 = c := by unfold r7; rw [if_pos (by omega)]
theorem r7_1 {c : Int} : r7 c 1 = c / 7 := by unfold r7; rw [if_neg (by omega), if_pos (by omega)]
theorem r7_2 {c : Int} : r7 c 2 = c / 49 := by unfold r7; rw [if_neg (by omega), if_neg (by omega), if_pos (by omega)]
theorem r7_3 {c : Int} : r7 c 3 = c / 343 := by unfold r7; rw [if_neg (by omega), if_neg (by omega), if_neg (by omega), if_pos (by omega)]
theorem r7_4 {c : Int} : r7 c 4 = c / 2401 := by unfold r7; rw [if_neg (by omega), if_neg (by omega), if_neg (by omega), if_neg (by omega)]
theorem pw7_s {m : Int} (h : 0 ≤ m) (h2 : m < 4) : pw7 (m + 1) = pw7 m * 7 := by
  have : m = 0 ∨ m = 1 ∨ m = 2 ∨ m = 3 := by omega
  rcases this with rfl | rfl | rfl | rfl <;> decide
theorem pw6_s {m : Int} (h : 0 ≤ m) (h2 : m < 4) : pw6 (m + 1) = pw6 m * 6 := by
  have : m = 0 ∨ m = 1 ∨ m = 2 ∨ m = 3 := by omega
  rcases this with rfl | rfl | rfl | rfl <;> decide
theorem pw7_rng {m : Int} (h : 0 ≤ m) (h2 : m < 4) : 1 ≤ pw7 m ∧ pw7 m ≤ 343 := by
  have : m = 0 ∨ m = 1 ∨ m = 2 ∨ m = 3 := by omega
  rcases this with rfl | rfl | rfl | rfl <;> decide
theorem pw6_rng {m : Int} (h : 0 ≤ m) (h2 : m < 4) : 1 ≤ pw6 m ∧ pw6 m ≤ 216 := by
  have : m = 0 ∨ m = 1 ∨ m = 2 ∨ m = 3 := by omega
  rcases this with rfl | rfl | rfl | rfl <;> decide
theorem r7_s {c m : Int} (h : 0 ≤ m) (h2 : m < 4) (hc : 0 ≤ c) : r7 c (m + 1) = r7 c m / 7 := by
  have : m = 0 ∨ m = 1 ∨ m = 2 ∨ m = 3 := by omega
  rcases this with rfl | rfl | rfl | rfl <;> simp only [pw7_0, pw7_1, pw7_2, pw7_3, pw7_4, pw6_0, pw6_1, pw6_2, pw6_3, pw6_4, r7_0, r7_1, r7_2, r7_3, r7_4, d7, Int.reduceAdd, Int.reduceSub, Int.reduceMul] <;> omega
theorem r7_rng {c m : Int} (h : 0 ≤ m) (h2 : m < 4) (hc : 0 ≤ c) (hc2 : c < 2401) : 0 ≤ r7 c m ∧ r7 c m < 2401 := by
  have : m = 0 ∨ m = 1 ∨ m = 2 ∨ m = 3 := by omega
  rcases this with rfl | rfl | rfl | rfl <;> simp only [pw7_0, pw7_1, pw7_2, pw7_3, pw7_4, pw6_0, pw6_1, pw6_2, pw6_3, pw6_4, r7_0, r7_1, r7_2, r7_3, r7_4, d7, Int.reduceAdd, Int.reduceSub, Int.reduceMul] <;> omega
theorem d7_rng {c m : Int} : 0 ≤ d7 c m ∧ d7 c m < 7 := by
  unfold d7
  omega
theorem d7_0 {m : Int} (h : 0 ≤ m) (h2 : m < 4) : d7 0 m = 0 := by
  have : m = 0 ∨ m = 1 ∨ m = 2 ∨ m = 3 := by omega
  rcases this with rfl | rfl | rfl | rfl <;> decide
theorem d7_add {a g n m : Int} (hn : 0 ≤ n) (hn2 : n < 4) (hm : 0 ≤ m) (hm2 : m < 4) (ha : 0 ≤ a) (ha2 : a < pw7 n) (hg : 0 ≤ g) (hg2 : g ≤ 6) : (0 ≤ a + g * pw7 n ∧ a + g * pw7 n < pw7 (n + 1)) ∧ d7 (a + g * pw7 n) m = if m = n then g else d7 a m := by
  have h1 : n = 0 ∨ n = 1 ∨ n = 2 ∨ n = 3 := by omega
  have h2 : m = 0 ∨ m = 1 ∨ m = 2 ∨ m = 3 := by omega
  rcases h1 with rfl | rfl | rfl | rfl <;> rcases h2 with rfl | rfl | rfl | rfl <;> simp only [pw7_0, pw7_1, pw7_2, pw7_3, pw7_4, pw6_0, pw6_1, pw6_2, pw6_3, pw6_4, r7_0, r7_1, r7_2, r7_3, r7_4, d7, Int.reduceAdd, Int.reduceSub, Int.reduceMul, ↓reduceIte, Int.reduceEq] at ha2 ⊢ <;> omega
/-- the digit that a machine comes to, 6 at its end -/
def dg (T : Int → Int) (c l m : Int) : Int := if d7 c m = 6 then 6 else if gGo T m (d7 c m) l = -1 then 6 else gGo T m (d7 c m) l
theorem dg_rng {T : Int → Int} {c l m : Int} (hT : TWf T) (hm : 0 ≤ m) (hm2 : m < T 1) (hl : 0 ≤ l) (hl2 : l < 4) : 0 ≤ dg T c l m ∧ dg T c l m ≤ 6 ∧ (dg T c l m = 6 ∨ dg T c l m < gO T m 2) := by
  have hd := d7_rng (c := c) (m := m)
  have h6 := (hT.2.2.2.2.2 m hm hm2).1
  unfold dg
  by_cases h : d7 c m = 6
  · rw [if_pos h]; omega
  · have hg := gGo_lt hT hm hm2 hd.1 (show d7 c m < 6 by omega) hl hl2
    rw [if_neg h]
    split <;> omega
def stF (T : Int → Int) (set ap c l m a : Int) : Int := if a = -1 then -1 else if pand (pshr set m) 1 = 1 then (if dg T c l m = 6 ∧ ap = 0 then -1 else a + dg T c l m * pw7 m) else a
def gSt (T : Int → Int) (set ap c l : Int) : Int := upto (stF T set ap c l) (T 1).toNat 0
theorem stF_dead {T : Int → Int} {set ap c l : Int} {n : Nat} (h : upto (stF T set ap c l) n 0 = -1) : ∀ i : Nat, upto (stF T set ap c l) (n + i) 0 = -1
  | 0 => h
  | i + 1 => by
    show stF T set ap c l ((n + i : Nat) : Int) (upto (stF T set ap c l) (n + i) 0) = -1
    rw [stF_dead h i]
    unfold stF
    rw [if_pos rfl]
theorem gSt_dead {T : Int → Int} {set ap c l i : Int} (hi : 0 ≤ i) (hi2 : i ≤ T 1) (h : upto (stF T set ap c l) i.toNat 0 = -1) : gSt T set ap c l = -1 := by
  have := stF_dead h ((T 1).toNat - i.toNat)
  rwa [show i.toNat + ((T 1).toNat - i.toNat) = (T 1).toNat from by omega] at this
theorem stA {T : Int → Int} {set ap c l : Int} (hT : TWf T) (hl : 0 ≤ l) (hl2 : l < 4) : ∀ n : Nat, (n : Int) ≤ T 1 → upto (stF T set ap c l) n 0 ≠ -1 → (0 ≤ upto (stF T set ap c l) n 0 ∧ upto (stF T set ap c l) n 0 < pw7 n) ∧ ∀ m, 0 ≤ m → m < 4 → (d7 (upto (stF T set ap c l) n 0) m = if m < n ∧ pand (pshr set m) 1 = 1 then dg T c l m else 0) ∧ (m < n → pand (pshr set m) 1 = 1 → ap = 0 → dg T c l m ≠ 6)
  | 0, _, _ => ⟨by show (0 : Int) ≤ 0 ∧ (0 : Int) < pw7 0; decide, fun m hm hm2 => ⟨by rw [if_neg (by omega)]; exact d7_0 hm hm2, fun h => absurd h (by omega)⟩⟩
  | n + 1, hn, hA => by
    have hT1 := hT.2.1
    have eA : upto (stF T set ap c l) (n + 1) 0 = stF T set ap c l n (upto (stF T set ap c l) n 0) := rfl
    rw [eA] at hA ⊢
    have hA0 : upto (stF T set ap c l) n 0 ≠ -1 := by
      intro z
      rw [z] at hA
      unfold stF at hA
      rw [if_pos rfl] at hA
      exact hA rfl
    have ih := stA hT hl hl2 n (by omega) hA0
    have hd := dg_rng (c := c) (l := l) (m := n) hT (by omega) (by omega) hl hl2
    generalize upto (stF T set ap c l) n 0 = a at *
    unfold stF at hA ⊢
    rw [if_neg hA0] at hA ⊢
    have e1 : ((n + 1 : Nat) : Int) = (n : Int) + 1 := by omega
    rw [e1]
    by_cases hb : pand (pshr set (n : Int)) 1 = 1
    · rw [if_pos hb] at hA ⊢
      have h6 : ¬ (dg T c l n = 6 ∧ ap = 0) := by
        intro z
        rw [if_pos z] at hA
        exact hA rfl
      rw [if_neg h6]
      refine ⟨(d7_add (m := 0) (by omega) (by omega) (by omega) (by omega) ih.1.1 ih.1.2 hd.1 hd.2.1).1, fun m hm hm2 => ⟨?_, fun h1 h2 h3 => ?_⟩⟩
      · rw [(d7_add (by omega) (by omega) hm hm2 ih.1.1 ih.1.2 hd.1 hd.2.1).2]
        by_cases hmn : m = n
        · rw [if_pos hmn, hmn, if_pos ⟨by omega, hb⟩]
        · rw [if_neg hmn, (ih.2 m hm hm2).1]
          by_cases hx : m < n ∧ pand (pshr set m) 1 = 1
          · rw [if_pos hx, if_pos ⟨by omega, hx.2⟩]
          · rw [if_neg hx, if_neg (fun z => hx ⟨by omega, z.2⟩)]
      · by_cases hmn : m = n
        · intro z
          rw [hmn] at z
          exact h6 ⟨z, h3⟩
        · exact (ih.2 m hm hm2).2 (by omega) h2 h3
    · rw [if_neg hb]
      have e2 := pw7_s (m := n) (by omega) (by omega)
      have e3 := pw7_rng (m := n) (by omega) (by omega)
      refine ⟨by omega, fun m hm hm2 => ⟨?_, fun h1 h2 h3 => ?_⟩⟩
      · rw [(ih.2 m hm hm2).1]
        by_cases hx : m < n ∧ pand (pshr set m) 1 = 1
        · rw [if_pos hx, if_pos ⟨by omega, hx.2⟩]
        · rw [if_neg hx, if_neg (fun z => hx ⟨by
            by_cases hmn : m = n
            · rw [hmn] at z; exact absurd z.2 hb
            · omega, z.2⟩)]
      · by_cases hmn : m = n
        · rw [hmn] at h2; exact absurd h2 hb
        · exact (ih.2 m hm hm2).2 (by omega) h2 h3
/-- codes that machines can come to -/
def VC (T : Int → Int) (set ap c : Int) : Prop := (0 ≤ c ∧ c < 2401) ∧ ∀ m, 0 ≤ m → m < 4 → if m < T 1 ∧ pand (pshr set m) 1 = 1 then (d7 c m < gO T m 2 ∨ (ap ≠ 0 ∧ d7 c m = 6)) else d7 c m = 0
theorem vc_0 {T : Int → Int} {set ap : Int} (hT : TWf T) : VC T set ap 0 := by
  refine ⟨by omega, fun m hm hm2 => ?_⟩
  rw [d7_0 hm hm2]
  by_cases h : m < T 1 ∧ pand (pshr set m) 1 = 1
  · rw [if_pos h]
    have := (hT.2.2.2.2.2 m hm h.1).1
    exact Or.inl (by omega)
  · rw [if_neg h]
theorem vc_st {T : Int → Int} {set ap c l : Int} (hT : TWf T) (hl : 0 ≤ l) (hl2 : l < 4) (h : gSt T set ap c l ≠ -1) : VC T set ap (gSt T set ap c l) := by
  have hT1 := hT.2.1
  have hA := stA hT hl hl2 (T 1).toNat (by omega) h
  have hp : pw7 ((T 1).toNat : Int) ≤ 2401 := by
    have : ((T 1).toNat : Int) = 0 ∨ ((T 1).toNat : Int) = 1 ∨ ((T 1).toNat : Int) = 2 ∨ ((T 1).toNat : Int) = 3 ∨ ((T 1).toNat : Int) = 4 := by omega
    rcases this with z | z | z | z | z <;> rw [z] <;> decide
  have hA1 : 0 ≤ gSt T set ap c l ∧ gSt T set ap c l < pw7 ((T 1).toNat : Int) := hA.1
  refine ⟨by omega, fun m hm hm2 => ?_⟩
  have hA2 := hA.2 m hm hm2
  have hA3 : d7 (gSt T set ap c l) m = if m < ((T 1).toNat : Int) ∧ pand (pshr set m) 1 = 1 then dg T c l m else 0 := hA2.1
  rw [hA3]
  by_cases hx : m < T 1 ∧ pand (pshr set m) 1 = 1
  · rw [if_pos hx, if_pos ⟨by omega, hx.2⟩]
    have hd := dg_rng (c := c) (l := l) hT hm hx.1 hl hl2
    by_cases h6 : dg T c l m = 6
    · by_cases ha : ap = 0
      · exact absurd h6 (hA2.2 (by omega) hx.2 ha)
      · exact Or.inr ⟨ha, h6⟩
    · exact Or.inl (by omega)
  · rw [if_neg hx, if_neg (fun z => hx ⟨by omega, z.2⟩)]

theorem K_step {p c l set ap : Int} {T : Int → Int} {nx : Nat} {h r : PF} {s : Int → Int} {Q : PO → PY → Nat → PC → Prop} (hP : PlOk r p) (hT : TWf T) (hR : PlanRel h p T) (e6 : h 15 6 = set) (e7 : h 15 7 = ap) (hap : ap = 0 ∨ ap = 1) (hc : 0 ≤ c) (hc2 : c < 2401) (hl : 0 ≤ l) (hl2 : l < 4) (K : Q (Sum.inl (some (pI (gSt T set ap c l)))) LY nx (h, r, s)) : Wp 51 0 [some (pR 15), some (pR p), some (pI c), some (pI l), none, none, none, none, none, none] [] LY nx (h, r, s) Q := by
  have hT0 := hT.1
  have hT1 := hT.2.1
  have ep1 := hR.1.2.1
  have hP0 := hP.1.1
  have hPk := hP.1.2
  simp (disch := first | assumption | omega) only [st_X4_step_0, st_X4_step_1, ↓if_pos, ↓if_neg, if_pos, if_neg, ↓reduceIte, true_and, and_true, false_and, and_false, true_or, or_true, false_or, or_false, w32_id, Kv, Kn, fup_s, fup_a, fup_k, fup_fup, Int.reduceAdd, Int.reduceSub, Int.reduceMul, Int.reduceNeg]
  refine loopL (Inv := fun m L => ∃ x y : Option PV, upto (stF T set ap c l) m.toNat 0 ≠ -1 ∧ L = [some (pR 15), some (pR p), some (pI c), some (pI l), some (pI (upto (stF T set ap c l) m.toNat 0)), some (pI (r7 c m)), some (pI (pw7 m)), some (pI m), x, y]) (a := 0) (n := T 1) (by omega) ?_ ?_ _ ⟨none, none, by show (0 : Int) ≠ -1; decide, rfl⟩
  · rintro i L hi hi2 ⟨x, y, hA, rfl⟩ hK
    have hq := r7_rng (m := i) hi (by omega) hc hc2
    have eq1 := r7_s (m := i) hi (by omega) hc
    have ew1 := pw7_s (m := i) hi (by omega)
    have hw := pw7_rng (m := i) hi (by omega)
    have ein : ((i.toNat : Nat) : Int) = i := by omega
    have hAr := (stA hT hl hl2 i.toNat (by omega) hA).1
    rw [ein] at hAr
    have hdr := d7_rng (c := c) (m := i)
    have hd := dg_rng (c := c) (l := l) (m := i) hT hi hi2 hl hl2
    have hsum := (d7_add (m := 0) hi (by omega) (by omega) (by omega) hAr.1 hAr.2 hd.1 hd.2.1).1
    have hw2 : pw7 (i + 1) ≤ 2401 := by omega
    have eA : upto (stF T set ap c l) (i + 1).toNat 0 = stF T set ap c l i (upto (stF T set ap c l) i.toNat 0) := upto_s hi
    have eA2 : stF T set ap c l i (upto (stF T set ap c l) i.toNat 0) = if pand (pshr set i) 1 = 1 then (if dg T c l i = 6 ∧ ap = 0 then -1 else upto (stF T set ap c l) i.toNat 0 + dg T c l i * pw7 i) else upto (stF T set ap c l) i.toNat 0 := by
      show (if upto (stF T set ap c l) i.toNat 0 = -1 then _ else _) = _
      rw [if_neg hA]
    have hdead : upto (stF T set ap c l) (i + 1).toNat 0 = -1 → gSt T set ap c l = -1 := fun z => gSt_dead (i := i + 1) (by omega) (by omega) z
    have hmul := hsum.2
    have hmul0 : 0 ≤ dg T c l i * pw7 i := Int.mul_nonneg hd.1 (by omega)
    have hd7 : r7 c i % 7 = d7 c i := rfl
    have hprem : prem (r7 c i) 7 = d7 c i := prem_nn hq.1 (by omega) (by omega) (by omega)
    have hpdiv : pdiv (r7 c i) 7 = r7 c (i + 1) := by rw [eq1]; exact pdiv_nn hq.1 (by omega) (by omega) (by omega)
    have hwm : w32 (pw7 i * 7) = pw7 (i + 1) := by rw [ew1]; exact w32_id (by omega) (by omega)
    have hws : w32 (dg T c l i * pw7 i) = dg T c l i * pw7 i := w32_id (by omega) (by omega)
    have hwa : w32 (upto (stF T set ap c l) i.toNat 0 + dg T c l i * pw7 i) = upto (stF T set ap c l) i.toNat 0 + dg T c l i * pw7 i := w32_id (by omega) (by omega)
    rw [eA2] at eA
    generalize hAi : upto (stF T set ap c l) i.toNat 0 = A at *
    rw [sh_X4_step_12]
    by_cases hb : pand (pshr set i) 1 = 1
    · rw [if_pos hb] at eA
      by_cases h6 : d7 c i = 6
      · have edg : dg T c l i = 6 := by unfold dg; rw [if_pos h6]
        by_cases ha : ap = 0
        · rw [hdead (by rw [eA, if_pos ⟨edg, ha⟩])] at K
          simp (disch := first | assumption | omega) only [st_X4_step_0, st_X4_step_1, ↓if_pos, ↓if_neg, if_pos, if_neg, ↓reduceIte, true_and, and_true, false_and, and_false, true_or, or_true, false_or, or_false, w32_id, Kv, Kn, fup_s, fup_a, fup_k, fup_fup, Int.reduceAdd, Int.reduceSub, Int.reduceMul, Int.reduceNeg, ep1, e6, e7, hprem, hpdiv, h6, ha, if_pos hb]
          exact K
        · rw [if_neg (fun z => ha z.2)] at eA
          have hne : upto (stF T set ap c l) (i + 1).toNat 0 ≠ -1 := by rw [eA]; omega
          have hK2 := hK _ ⟨some (pI 6), some (pI (-1)), hne, rfl⟩
          rw [eA, ew1] at hK2
          rw [edg] at hws hwa hK2
          simp (disch := first | assumption | omega) only [st_X4_step_0, st_X4_step_1, ↓if_pos, ↓if_neg, if_pos, if_neg, ↓reduceIte, true_and, and_true, false_and, and_false, true_or, or_true, false_or, or_false, w32_id, Kv, Kn, fup_s, fup_a, fup_k, fup_fup, Int.reduceAdd, Int.reduceSub, Int.reduceMul, Int.reduceNeg, ep1, e6, e7, hprem, hpdiv, h6, if_pos hb, hws, hwa]
          exact hK2
      · by_cases hg : gGo T i (d7 c i) l = -1
        · have edg : dg T c l i = 6 := by unfold dg; rw [if_neg h6, if_pos hg]
          by_cases ha : ap = 0
          · rw [hdead (by rw [eA, if_pos ⟨edg, ha⟩])] at K
            simp (disch := first | assumption | omega) only [st_X4_step_0, st_X4_step_1, ↓if_pos, ↓if_neg, if_pos, if_neg, ↓reduceIte, true_and, and_true, false_and, and_false, true_or, or_true, false_or, or_false, w32_id, Kv, Kn, fup_s, fup_a, fup_k, fup_fup, Int.reduceAdd, Int.reduceSub, Int.reduceMul, Int.reduceNeg, ep1, e6, e7, hprem, hpdiv, D_target hP hT hR, hg, ha, if_pos hb]
            exact K
          · rw [if_neg (fun z => ha z.2)] at eA
            have hne : upto (stF T set ap c l) (i + 1).toNat 0 ≠ -1 := by rw [eA]; omega
            have hK2 := hK _ ⟨some (pI (d7 c i)), some (pI (-1)), hne, rfl⟩
            rw [eA, ew1] at hK2
            rw [edg] at hws hwa hK2
            simp (disch := first | assumption | omega) only [st_X4_step_0, st_X4_step_1, ↓if_pos, ↓if_neg, if_pos, if_neg, ↓reduceIte, true_and, and_true, false_and, and_false, true_or, or_true, false_or, or_false, w32_id, Kv, Kn, fup_s, fup_a, fup_k, fup_fup, Int.reduceAdd, Int.reduceSub, Int.reduceMul, Int.reduceNeg, ep1, e6, e7, hprem, hpdiv, D_target hP hT hR, hg, if_pos hb, hws, hwa]
            exact hK2
        · have edg : dg T c l i = gGo T i (d7 c i) l := by unfold dg; rw [if_neg h6, if_neg hg]
          have hg5 := gGo_lt hT hi hi2 hdr.1 (show d7 c i < 6 by omega) hl hl2
          have hT6 := (hT.2.2.2.2.2 i hi hi2).1
          rw [if_neg (fun z => by omega)] at eA
          have hne : upto (stF T set ap c l) (i + 1).toNat 0 ≠ -1 := by rw [eA]; omega
          have hK2 := hK _ ⟨some (pI (d7 c i)), some (pI (gGo T i (d7 c i) l)), hne, rfl⟩
          rw [eA, ew1] at hK2
          rw [edg] at hws hwa hK2
          simp (disch := first | assumption | omega) only [st_X4_step_0, st_X4_step_1, ↓if_pos, ↓if_neg, if_pos, if_neg, ↓reduceIte, true_and, and_true, false_and, and_false, true_or, or_true, false_or, or_false, w32_id, Kv, Kn, fup_s, fup_a, fup_k, fup_fup, Int.reduceAdd, Int.reduceSub, Int.reduceMul, Int.reduceNeg, ep1, e6, e7, hprem, hpdiv, D_target hP hT hR, if_pos hb, hws, hwa]
          exact hK2
    · rw [if_neg hb] at eA
      have hne : upto (stF T set ap c l) (i + 1).toNat 0 ≠ -1 := by rw [eA]; exact hA
      have hK2 := hK _ ⟨x, y, hne, rfl⟩
      rw [eA, ew1] at hK2
      simp (disch := first | assumption | omega) only [st_X4_step_0, st_X4_step_1, ↓if_pos, ↓if_neg, if_pos, if_neg, ↓reduceIte, true_and, and_true, false_and, and_false, true_or, or_true, false_or, or_false, w32_id, Kv, Kn, fup_s, fup_a, fup_k, fup_fup, Int.reduceAdd, Int.reduceSub, Int.reduceMul, Int.reduceNeg, ep1, e6, e7, hprem, hpdiv, if_neg hb]
      exact hK2
  · rintro L ⟨x, y, hA, rfl⟩
    rw [sh_X4_step_12]
    simp (disch := first | assumption | omega) only [st_X4_step_0, st_X4_step_1, ↓if_pos, ↓if_neg, if_pos, if_neg, ↓reduceIte, true_and, and_true, false_and, and_false, true_or, or_true, false_or, or_false, w32_id, Kv, Kn, fup_s, fup_a, fup_k, fup_fup, Int.reduceAdd, Int.reduceSub, Int.reduceMul, Int.reduceNeg, ep1]
    exact K
theorem C_step {p c l set ap : Int} {T : Int → Int} {nx : Nat} {h r : PF} {s : Int → Int} {Q : PO → PY → Nat → PC → Prop} (hP : PlOk r p) (hT : TWf T) (hR : PlanRel h p T) (e6 : h 15 6 = set) (e7 : h 15 7 = ap) (hap : ap = 0 ∨ ap = 1) (hc : 0 ≤ c) (hc2 : c < 2401) (hl : 0 ≤ l) (hl2 : l < 4) : Wp 51 0 [some (pR 15), some (pR p), some (pI c), some (pI l), none, none, none, none, none, none] [] LY nx (h, r, s) Q ↔ Q (Sum.inl (some (pI (gSt T set ap c l)))) LY nx (h, r, s) := Wp.eq (K_step hP hT hR e6 e7 hap hc hc2 hl hl2 ⟨rfl, rfl, rfl, rfl⟩)
def bcE (x : Int) : Int := pand (w32 (w32 (pand (w32 (w32 (pand (w32 (x - pand (pushr x 1) 1431655765)) 858993459 + pand (pushr (w32 (x - pand (pushr x 1) 1431655765)) 2) 858993459) + pushr (w32 (pand (w32 (x - pand (pushr x 1) 1431655765)) 858993459 + pand (pushr (w32 (x - pand (pushr x 1) 1431655765)) 2) 858993459)) 4)) 252645135 + pushr (pand (w32 (w32 (pand (w32 (x - pand (pushr x 1) 1431655765)) 858993459 + pand (pushr (w32 (x - pand (pushr x 1) 1431655765)) 2) 858993459) + pushr (w32 (pand (w32 (x - pand (pushr x 1) 1431655765)) 858993459 + pand (pushr (w32 (x - pand (pushr x 1) 1431655765)) 2) 858993459)) 4)) 252645135) 8) + pushr (w32 (pand (w32 (w32 (pand (w32 (x - pand (pushr x 1) 1431655765)) 858993459 + pand (pushr (w32 (x - pand (pushr x 1) 1431655765)) 2) 858993459) + pushr (w32 (pand (w32 (x - pand (pushr x 1) 1431655765)) 858993459 + pand (pushr (w32 (x - pand (pushr x 1) 1431655765)) 2) 858993459)) 4)) 252645135 + pushr (pand (w32 (w32 (pand (w32 (x - pand (pushr x 1) 1431655765)) 858993459 + pand (pushr (w32 (x - pand (pushr x 1) 1431655765)) 2) 858993459) + pushr (w32 (pand (w32 (x - pand (pushr x 1) 1431655765)) 858993459 + pand (pushr (w32 (x - pand (pushr x 1) 1431655765)) 2) 858993459)) 4)) 252645135) 8)) 16)) 63
theorem S_bitCount {x : Int} {nx : Nat} {h r : PF} {s : Int → Int} {Q : PO → PY → Nat → PC → Prop} : Wp 228 0 [some (pI x)] [] LY nx (h, r, s) Q ↔ Q (Sum.inl (some (pI (bcE x)))) LY nx (h, r, s) := by
  simp (disch := first | assumption | omega) only [st_J6_bitCount_0f7a4]
  rfl
theorem bcE_16 : ∀ k : Fin 16, bcE ((k.val : Nat) : Int) = (if pand (pshr ((k.val : Nat) : Int) 0) 1 = 1 then 1 else 0) + (if pand (pshr ((k.val : Nat) : Int) 1) 1 = 1 then 1 else 0) + (if pand (pshr ((k.val : Nat) : Int) 2) 1 = 1 then 1 else 0) + (if pand (pshr ((k.val : Nat) : Int) 3) 1 = 1 then 1 else 0) := by decide +kernel
theorem bcE_sum {x : Int} (h : 0 ≤ x) (h2 : x < 16) : bcE x = (if pand (pshr x 0) 1 = 1 then 1 else 0) + (if pand (pshr x 1) 1 = 1 then 1 else 0) + (if pand (pshr x 2) 1 = 1 then 1 else 0) + (if pand (pshr x 3) 1 = 1 then 1 else 0) := by
  have := bcE_16 ⟨x.toNat, by omega⟩
  simp only [Int.toNat_of_nonneg h] at this
  exact this
def acF (T : Int → Int) (set c m a : Int) : Int := if pand (pshr set m) 1 = 1 ∧ d7 c m ≠ 6 ∧ gS T m (d7 c m) 0 = 1 then a + 1 else a
def gAcc (T : Int → Int) (set c : Int) : Int := upto (acF T set c) (T 1).toNat 0
def gFd (T : Int → Int) (set ap c : Int) : Int := if gAcc T set c = (if ap ≠ 0 then 1 else bcE set) then 1 else 0
theorem gAcc_rng {T : Int → Int} {set c : Int} : ∀ n : Nat, 0 ≤ upto (acF T set c) n 0 ∧ upto (acF T set c) n 0 ≤ n
  | 0 => by show (0 : Int) ≤ 0 ∧ (0 : Int) ≤ 0; omega
  | n + 1 => by
    have ih := gAcc_rng (T := T) (set := set) (c := c) n
    show 0 ≤ acF T set c n (upto (acF T set c) n 0) ∧ acF T set c n (upto (acF T set c) n 0) ≤ ((n + 1 : Nat) : Int)
    generalize upto (acF T set c) n 0 = a at *
    unfold acF
    split <;> omega
theorem D_isGoal7 {p m c : Int} {T : Int → Int} {nx : Nat} {h r : PF} {s : Int → Int} {Q : PO → PY → Nat → PC → Prop} (hP : PlOk r p) (hT : TWf T) (hR : PlanRel h p T) (hm : 0 ≤ m) (hm2 : m < T 1) : Wp 22 0 [some (pR p), some (pI m), some (pI (d7 c m))] [] LY nx (h, r, s) Q ↔ if d7 c m ≠ 6 ∧ gS T m (d7 c m) 0 = 1 then Q (Sum.inl (some (pI 1))) LY nx (h, r, s) else Q (Sum.inl (some (pI 0))) LY nx (h, r, s) := by
  have hT1 := hT.2.1
  have hd := d7_rng (c := c) (m := m)
  by_cases h6 : d7 c m = 6
  · rw [C_isGoal hP hm (by omega), h6]
    have hg := (hR.2 m hm hm2).1.2.2.2.2
    have hb := (bit01 ⟨(h (p + 4) m).toNat, by omega⟩ 6).2 rfl
    simp only [Int.toNat_of_nonneg hg.1] at hb
    have hb' : pand (pshr (h (p + 4) m) 6) 1 = 0 := hb
    rw [hb', if_neg (by omega), if_neg (fun z => z.1 rfl)]
  · rw [D_isGoal hP hT hR hm hm2 hd.1 (show d7 c m < 6 by omega)]
    by_cases hg : gS T m (d7 c m) 0 = 1
    · rw [if_pos hg, if_pos ⟨h6, hg⟩]
    · rw [if_neg hg, if_neg (fun z => hg z.2)]
theorem K_isFound {p c set ap : Int} {T : Int → Int} {nx : Nat} {h r : PF} {s : Int → Int} {Q : PO → PY → Nat → PC → Prop} (hP : PlOk r p) (hT : TWf T) (hR : PlanRel h p T) (e6 : h 15 6 = set) (e7 : h 15 7 = ap) (hap : ap = 0 ∨ ap = 1) (hc : 0 ≤ c) (hc2 : c < 2401) (K : Q (Sum.inl (some (pI (gFd T set ap c)))) LY nx (h, r, s)) : Wp 52 0 [some (pR 15), some (pR p), some (pI c), none, none, none] [] LY nx (h, r, s) Q := by
  have hT0 := hT.1
  have hT1 := hT.2.1
  have ep1 := hR.1.2.1
  have hP0 := hP.1.1
  have hPk := hP.1.2
  simp (disch := first | assumption | omega) only [st_X4_isFound, ↓if_pos, ↓if_neg, if_pos, if_neg, ↓reduceIte, true_and, and_true, false_and, and_false, true_or, or_true, false_or, or_false, w32_id, Kv, Kn, fup_s, fup_a, fup_k, fup_fup, Int.reduceAdd, Int.reduceSub, Int.reduceMul, Int.reduceNeg]
  refine loopL (Inv := fun m L => L = [some (pR 15), some (pR p), some (pI c), some (pI (upto (acF T set c) m.toNat 0)), some (pI (r7 c m)), some (pI m)]) (a := 0) (n := T 1) (by omega) ?_ ?_ _ rfl
  · rintro i L hi hi2 rfl hK
    have hq := r7_rng (m := i) hi (by omega) hc hc2
    have eq1 := r7_s (m := i) hi (by omega) hc
    have hprem : prem (r7 c i) 7 = d7 c i := prem_nn hq.1 (by omega) (by omega) (by omega)
    have hpdiv : pdiv (r7 c i) 7 = r7 c (i + 1) := by rw [eq1]; exact pdiv_nn hq.1 (by omega) (by omega) (by omega)
    have hAr := gAcc_rng (T := T) (set := set) (c := c) i.toNat
    have eA : upto (acF T set c) (i + 1).toNat 0 = acF T set c i (upto (acF T set c) i.toNat 0) := upto_s hi
    have hK2 := hK _ rfl
    rw [eA] at hK2
    generalize upto (acF T set c) i.toNat 0 = A at *
    rw [sh_X4_isFound_8]
    unfold acF at hK2
    by_cases hb : pand (pshr set i) 1 = 1
    · by_cases hg : d7 c i ≠ 6 ∧ gS T i (d7 c i) 0 = 1
      · rw [if_pos ⟨hb, hg⟩] at hK2
        simp (disch := first | assumption | omega) only [st_X4_isFound, ↓if_pos, ↓if_neg, if_pos, if_neg, ↓reduceIte, true_and, and_true, false_and, and_false, true_or, or_true, false_or, or_false, w32_id, Kv, Kn, fup_s, fup_a, fup_k, fup_fup, Int.reduceAdd, Int.reduceSub, Int.reduceMul, Int.reduceNeg, ep1, e6, e7, hprem, hpdiv, if_pos hb, D_isGoal7 hP hT hR, if_pos hg]
        exact hK2
      · rw [if_neg (fun z => hg z.2)] at hK2
        simp (disch := first | assumption | omega) only [st_X4_isFound, ↓if_pos, ↓if_neg, if_pos, if_neg, ↓reduceIte, true_and, and_true, false_and, and_false, true_or, or_true, false_or, or_false, w32_id, Kv, Kn, fup_s, fup_a, fup_k, fup_fup, Int.reduceAdd, Int.reduceSub, Int.reduceMul, Int.reduceNeg, ep1, e6, e7, hprem, hpdiv, if_pos hb, D_isGoal7 hP hT hR, if_neg hg]
        exact hK2
    · rw [if_neg (fun z => hb z.1)] at hK2
      simp (disch := first | assumption | omega) only [st_X4_isFound, ↓if_pos, ↓if_neg, if_pos, if_neg, ↓reduceIte, true_and, and_true, false_and, and_false, true_or, or_true, false_or, or_false, w32_id, Kv, Kn, fup_s, fup_a, fup_k, fup_fup, Int.reduceAdd, Int.reduceSub, Int.reduceMul, Int.reduceNeg, ep1, e6, e7, hprem, hpdiv, if_neg hb]
      exact hK2
  · rintro L rfl
    rw [sh_X4_isFound_8]
    have eG : upto (acF T set c) (T 1).toNat 0 = gAcc T set c := rfl
    rw [eG]
    unfold gFd at K
    rcases hap with ha | ha
    · rw [ha] at e7
      rw [if_neg (show ¬ ap ≠ 0 from fun z => z ha)] at K
      by_cases hf : gAcc T set c = bcE set
      · rw [if_pos hf] at K
        simp (disch := first | assumption | omega) only [st_X4_isFound, ↓if_pos, ↓if_neg, if_pos, if_neg, ↓reduceIte, true_and, and_true, false_and, and_false, true_or, or_true, false_or, or_false, w32_id, Kv, Kn, fup_s, fup_a, fup_k, fup_fup, Int.reduceAdd, Int.reduceSub, Int.reduceMul, Int.reduceNeg, ep1, e6, e7, S_bitCount, hf]
        exact K
      · rw [if_neg hf] at K
        simp (disch := first | assumption | omega) only [st_X4_isFound, ↓if_pos, ↓if_neg, if_pos, if_neg, ↓reduceIte, true_and, and_true, false_and, and_false, true_or, or_true, false_or, or_false, w32_id, Kv, Kn, fup_s, fup_a, fup_k, fup_fup, Int.reduceAdd, Int.reduceSub, Int.reduceMul, Int.reduceNeg, ep1, e6, e7, S_bitCount]
        exact K
    · rw [ha] at e7
      rw [if_pos (show ap ≠ 0 from fun z => by omega)] at K
      by_cases hf : gAcc T set c = 1
      · rw [if_pos hf] at K
        simp (disch := first | assumption | omega) only [st_X4_isFound, ↓if_pos, ↓if_neg, if_pos, if_neg, ↓reduceIte, true_and, and_true, false_and, and_false, true_or, or_true, false_or, or_false, w32_id, Kv, Kn, fup_s, fup_a, fup_k, fup_fup, Int.reduceAdd, Int.reduceSub, Int.reduceMul, Int.reduceNeg, ep1, e6, e7, S_bitCount, hf]
        exact K
      · rw [if_neg hf] at K
        simp (disch := first | assumption | omega) only [st_X4_isFound, ↓if_pos, ↓if_neg, if_pos, if_neg, ↓reduceIte, true_and, and_true, false_and, and_false, true_or, or_true, false_or, or_false, w32_id, Kv, Kn, fup_s, fup_a, fup_k, fup_fup, Int.reduceAdd, Int.reduceSub, Int.reduceMul, Int.reduceNeg, ep1, e6, e7, S_bitCount]
        exact K
theorem C_isFound {p c set ap : Int} {T : Int → Int} {nx : Nat} {h r : PF} {s : Int → Int} {Q : PO → PY → Nat → PC → Prop} (hP : PlOk r p) (hT : TWf T) (hR : PlanRel h p T) (e6 : h 15 6 = set) (e7 : h 15 7 = ap) (hap : ap = 0 ∨ ap = 1) (hc : 0 ≤ c) (hc2 : c < 2401) : Wp 52 0 [some (pR 15), some (pR p), some (pI c), none, none, none] [] LY nx (h, r, s) Q ↔ Q (Sum.inl (some (pI (gFd T set ap c)))) LY nx (h, r, s) := Wp.eq (K_isFound hP hT hR e6 e7 hap hc hc2 ⟨rfl, rfl, rfl, rfl⟩)
