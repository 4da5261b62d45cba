/-! WORDS, THE REFERENCE: tuples by six -/
def r6 (c m : Int) : Int := if m ≤ 0 then c else if m = 1 then c / 6 else if m = 2 then c / 36 else if m = 3 then c / 216 else c / 1296
def ps (c : Int) : Int := c % 7 + 6 * (c / 7 % 7) + 36 * (c / 49 % 7) + 216 * (c / 343 % 7)
theorem r6_0 {c : Int} : r6 c 0 = c := by unfold r6; rw [if_pos (by omega)]
theorem r6_1 {c : Int} : r6 c 1 = c / 6 := by unfold r6; rw [if_neg (by omega), if_pos (by omega)]
theorem r6_2 {c : Int} : r6 c 2 = c / 36 := by unfold r6; rw [if_neg (by omega), if_neg (by omega), if_pos (by omega)]
theorem r6_3 {c : Int} : r6 c 3 = c / 216 := by unfold r6; rw [if_neg (by omega), if_neg (by omega), if_neg (by omega), if_pos (by omega)]
theorem r6_4 {c : Int} : r6 c 4 = c / 1296 := by unfold r6; rw [if_neg (by omega), if_neg (by omega), if_neg (by omega), if_neg (by omega)]
theorem r6_s {c m : Int} (h : 0 ≤ m) (h2 : m < 4) (hc : 0 ≤ c) : r6 c (m + 1) = r6 c m / 6 := by
  have : m = 0 ∨ m = 1 ∨ m = 2 ∨ m = 3 := by omega
  rcases this with rfl | rfl | rfl | rfl <;> simp only [pw7_0, pw7_1, pw7_2, pw7_3, pw7_4, pw6_0, pw6_1, pw6_2, pw6_3, pw6_4, r7_0, r7_1, r7_2, r7_3, r7_4, d7, Int.reduceAdd, Int.reduceSub, Int.reduceMul, pw6_0, pw6_1, pw6_2, pw6_3, pw6_4, r6_0, r6_1, r6_2, r6_3, r6_4] <;> omega
theorem r6_rng {c m : Int} (h : 0 ≤ m) (h2 : m < 4) (hc : 0 ≤ c) (hc2 : c < 1296) : 0 ≤ r6 c m ∧ r6 c m < 1296 := by
  have : m = 0 ∨ m = 1 ∨ m = 2 ∨ m = 3 := by omega
  rcases this with rfl | rfl | rfl | rfl <;> simp only [pw7_0, pw7_1, pw7_2, pw7_3, pw7_4, pw6_0, pw6_1, pw6_2, pw6_3, pw6_4, r7_0, r7_1, r7_2, r7_3, r7_4, d7, Int.reduceAdd, Int.reduceSub, Int.reduceMul, pw6_0, pw6_1, pw6_2, pw6_3, pw6_4, r6_0, r6_1, r6_2, r6_3, r6_4] <;> omega
theorem ps_add {a g n : Int} (hn : 0 ≤ n) (hn2 : n < 4) (ha : 0 ≤ a) (ha2 : a < pw7 n) (hg : 0 ≤ g) (hg2 : g ≤ 6) : ps (a + g * pw7 n) = ps a + pw6 n * g := by
  have : n = 0 ∨ n = 1 ∨ n = 2 ∨ n = 3 := by omega
  unfold ps
  rcases this with rfl | rfl | rfl | rfl <;> simp only [pw7_0, pw7_1, pw7_2, pw7_3, pw7_4, pw6_0, pw6_1, pw6_2, pw6_3, pw6_4, r7_0, r7_1, r7_2, r7_3, r7_4, d7, Int.reduceAdd, Int.reduceSub, Int.reduceMul, pw6_0, pw6_1, pw6_2, pw6_3, pw6_4, r6_0, r6_1, r6_2, r6_3, r6_4] at ha2 ⊢ <;> omega
/-- all digits are states -/
def D6 (c : Int) : Prop := d7 c 0 < 6 ∧ d7 c 1 < 6 ∧ d7 c 2 < 6 ∧ d7 c 3 < 6
theorem ps_rng {c : Int} (h : D6 c) : 0 ≤ ps c ∧ ps c < 1296 := by
  unfold D6 at h
  unfold ps
  simp only [pw7_0, pw7_1, pw7_2, pw7_3, pw7_4, pw6_0, pw6_1, pw6_2, pw6_3, pw6_4, r7_0, r7_1, r7_2, r7_3, r7_4, d7, Int.reduceAdd, Int.reduceSub, Int.reduceMul, pw6_0, pw6_1, pw6_2, pw6_3, pw6_4, r6_0, r6_1, r6_2, r6_3, r6_4] at h
  omega
theorem dig6 {x0 x1 x2 x3 : Int} (h0 : 0 ≤ x0 ∧ x0 < 6) (h1 : 0 ≤ x1 ∧ x1 < 6) (h2 : 0 ≤ x2 ∧ x2 < 6) (h3 : 0 ≤ x3 ∧ x3 < 6) : (x0 + 6 * x1 + 36 * x2 + 216 * x3) % 6 = x0 ∧ (x0 + 6 * x1 + 36 * x2 + 216 * x3) / 6 % 6 = x1 ∧ (x0 + 6 * x1 + 36 * x2 + 216 * x3) / 36 % 6 = x2 ∧ (x0 + 6 * x1 + 36 * x2 + 216 * x3) / 216 % 6 = x3 := by
  refine ⟨?_, ?_, ?_, ?_⟩ <;> omega
theorem ps_dig {c m : Int} (h : D6 c) (hm : 0 ≤ m) (hm2 : m < 4) : r6 (ps c) m % 6 = d7 c m := by
  have : m = 0 ∨ m = 1 ∨ m = 2 ∨ m = 3 := by omega
  unfold D6 at h
  unfold ps
  simp only [pw7_0, pw7_1, pw7_2, pw7_3, pw7_4, pw6_0, pw6_1, pw6_2, pw6_3, pw6_4, r7_0, r7_1, r7_2, r7_3, r7_4, d7, Int.reduceAdd, Int.reduceSub, Int.reduceMul, pw6_0, pw6_1, pw6_2, pw6_3, pw6_4, r6_0, r6_1, r6_2, r6_3, r6_4] at h
  have k := dig6 (x0 := c % 7) (x1 := c / 7 % 7) (x2 := c / 49 % 7) (x3 := c / 343 % 7) (by omega) (by omega) (by omega) (by omega)
  rcases this with rfl | rfl | rfl | rfl <;> simp only [pw7_0, pw7_1, pw7_2, pw7_3, pw7_4, pw6_0, pw6_1, pw6_2, pw6_3, pw6_4, r7_0, r7_1, r7_2, r7_3, r7_4, d7, Int.reduceAdd, Int.reduceSub, Int.reduceMul, pw6_0, pw6_1, pw6_2, pw6_3, pw6_4, r6_0, r6_1, r6_2, r6_3, r6_4]
  · exact k.1
  · exact k.2.1
  · exact k.2.2.1
  · exact k.2.2.2
theorem ps_inj {c c' : Int} (h : D6 c) (h' : D6 c') (h0 : 0 ≤ c ∧ c < 2401) (h0' : 0 ≤ c' ∧ c' < 2401) (e : ps c = ps c') : c = c' := by
  have e0 := ps_dig h (show (0 : Int) ≤ 0 by omega) (by omega)
  have e1 := ps_dig h (show (0 : Int) ≤ 1 by omega) (by omega)
  have e2 := ps_dig h (show (0 : Int) ≤ 2 by omega) (by omega)
  have e3 := ps_dig h (show (0 : Int) ≤ 3 by omega) (by omega)
  have f0 := ps_dig h' (show (0 : Int) ≤ 0 by omega) (by omega)
  have f1 := ps_dig h' (show (0 : Int) ≤ 1 by omega) (by omega)
  have f2 := ps_dig h' (show (0 : Int) ≤ 2 by omega) (by omega)
  have f3 := ps_dig h' (show (0 : Int) ≤ 3 by omega) (by omega)
  rw [e, f0] at e0
  rw [e, f1] at e1
  rw [e, f2] at e2
  rw [e, f3] at e3
  simp only [pw7_0, pw7_1, pw7_2, pw7_3, pw7_4, pw6_0, pw6_1, pw6_2, pw6_3, pw6_4, r7_0, r7_1, r7_2, r7_3, r7_4, d7, Int.reduceAdd, Int.reduceSub, Int.reduceMul, pw6_0, pw6_1, pw6_2, pw6_3, pw6_4, r6_0, r6_1, r6_2, r6_3, r6_4] at e0 e1 e2 e3
  omega
theorem vc_d6 {T : Int → Int} {set c : Int} (hT : TWf T) (h : VC T set 0 c) : D6 c := by
  have key : ∀ m, 0 ≤ m → m < 4 → d7 c m < 6 := by
    intro m hm hm2
    have h1 := h.2 m hm hm2
    by_cases hx : m < T 1 ∧ pand (pshr set m) 1 = 1
    · rw [if_pos hx] at h1
      have h2 := (hT.2.2.2.2.2 m hm hx.1).1
      rcases h1 with z | z
      · omega
      · exact absurd rfl z.1
    · rw [if_neg hx] at h1
      omega
  exact ⟨key 0 (by omega) (by omega), key 1 (by omega) (by omega), key 2 (by omega) (by omega), key 3 (by omega) (by omega)⟩
theorem ix_ps {T : Int → Int} {set : Int} (hT : TWf T) : Ix (VC T set 0) ps := ⟨fun c hc => ⟨hc.1, ps_rng (vc_d6 hT hc)⟩, fun c c' hc hc' e => ps_inj (vc_d6 hT hc) (vc_d6 hT hc') hc.1 hc'.1 e⟩
theorem ps_0 : ps 0 = 0 := by decide
theorem K_digit {t m : Int} {nx : Nat} {h r : PF} {s : Int → Int} {Q : PO → PY → Nat → PC → Prop} (ht : 0 ≤ t) (ht2 : t < 1296) (hm : 0 ≤ m) (hm2 : m < 4) (K : Q (Sum.inl (some (pI (r6 t m % 6)))) LY nx (h, r, s)) : Wp 199 0 [some (pI t), some (pI m), none, none] [] LY nx (h, r, s) Q := by
  simp (disch := first | assumption | omega) only [st_X8_digit, ↓if_pos, ↓if_neg, if_pos, if_neg, ↓reduceIte, true_and, and_true, false_and, and_false, true_or, or_true, false_or, or_false, w32_id, Kv, Kn, fup_s, fup_a, fup_k, fup_fup, Int.reduceAdd, Int.reduceSub, Int.reduceMul, Int.reduceNeg]
  refine loopL (Inv := fun i L => L = [some (pI t), some (pI m), some (pI (r6 t i)), some (pI i)]) (a := 0) (n := m) (by omega) ?_ ?_ _ (by rw [r6_0])
  · rintro i L hi hi2 rfl hK
    have hq := r6_rng (m := i) hi (by omega) ht ht2
    have hpdiv : pdiv (r6 t i) 6 = r6 t (i + 1) := by rw [r6_s hi (by omega) ht]; exact pdiv_nn hq.1 (by omega) (by omega) (by omega)
    have hK2 := hK _ rfl
    rw [sh_X8_digit_4]
    simp (disch := first | assumption | omega) only [st_X8_digit, ↓if_pos, ↓if_neg, if_pos, if_neg, ↓reduceIte, true_and, and_true, false_and, and_false, true_or, or_true, false_or, or_false, w32_id, Kv, Kn, fup_s, fup_a, fup_k, fup_fup, Int.reduceAdd, Int.reduceSub, Int.reduceMul, Int.reduceNeg, hpdiv]
    exact hK2
  · rintro L rfl
    have hq := r6_rng (m := m) hm hm2 ht ht2
    have hprem : prem (r6 t m) 6 = r6 t m % 6 := prem_nn hq.1 (by omega) (by omega) (by omega)
    rw [sh_X8_digit_4]
    simp (disch := first | assumption | omega) only [st_X8_digit, ↓if_pos, ↓if_neg, if_pos, if_neg, ↓reduceIte, true_and, and_true, false_and, and_false, true_or, or_true, false_or, or_false, w32_id, Kv, Kn, fup_s, fup_a, fup_k, fup_fup, Int.reduceAdd, Int.reduceSub, Int.reduceMul, Int.reduceNeg, hprem]
    exact K
theorem S_digit {t m : Int} {nx : Nat} {h r : PF} {s : Int → Int} {Q : PO → PY → Nat → PC → Prop} (ht : 0 ≤ t) (ht2 : t < 1296) (hm : 0 ≤ m) (hm2 : m < 4) : Wp 199 0 [some (pI t), some (pI m), none, none] [] LY nx (h, r, s) Q ↔ Q (Sum.inl (some (pI (r6 t m % 6)))) LY nx (h, r, s) := Wp.eq (K_digit ht ht2 hm hm2 ⟨rfl, rfl, rfl, rfl⟩)
theorem K_together {set c l : Int} {nx : Nat} {h r : PF} {s : Int → Int} {Q : PO → PY → Nat → PC → Prop} (hW : WFr r) (hT : TWf (h 179)) (hV : VC (h 179) set 0 c) (hl : 0 ≤ l) (hl2 : l < 4) (K : Q (Sum.inl (some (pI (if gSt (h 179) set 0 c l = -1 then -1 else ps (gSt (h 179) set 0 c l))))) LY nx (h, r, s)) : Wp 200 0 [some (pR 178), some (pI set), some (pI (ps c)), some (pI l), none, none, none, none] [] LY nx (h, r, s) Q := by
  have hT0 := hT.1
  have hT1 := hT.2.1
  have hd6 := vc_d6 hT hV
  have hpr := ps_rng hd6
  simp (disch := first | assumption | omega) only [st_X8_together, ↓if_pos, ↓if_neg, if_pos, if_neg, ↓reduceIte, true_and, and_true, false_and, and_false, true_or, or_true, false_or, or_false, w32_id, Kv, Kn, fup_s, fup_a, fup_k, fup_fup, Int.reduceAdd, Int.reduceSub, Int.reduceMul, Int.reduceNeg]
  refine loopL (Inv := fun m L => ∃ x : Option PV, upto (stF (h 179) set 0 c l) m.toNat 0 ≠ -1 ∧ L = [some (pR 178), some (pI set), some (pI (ps c)), some (pI l), some (pI (ps (upto (stF (h 179) set 0 c l) m.toNat 0))), some (pI (pw6 m)), some (pI m), x]) (a := 0) (n := h 179 1) (by omega) ?_ ?_ _ ⟨none, by show (0 : Int) ≠ -1; decide, rfl⟩
  · rintro i L hi hi2 ⟨x, hA, rfl⟩ hK
    have ew1 := pw6_s (m := i) hi (by omega)
    have hw := pw6_rng (m := i) hi (by omega)
    have ein : ((i.toNat : Nat) : Int) = i := by omega
    have hAs := stA (set := set) (ap := 0) (c := c) hT hl hl2 i.toNat (by omega) hA
    have hAr := hAs.1
    rw [ein] at hAr
    have hdr := d7_rng (c := c) (m := i)
    have hdd := ps_dig hd6 hi (show i < 4 by omega)
    have hd5 : d7 c i < 6 := by
      have := hdd
      omega
    have hg5 := gGo_lt hT hi hi2 hdr.1 hd5 hl hl2
    have hT6 := (hT.2.2.2.2.2 i hi hi2).1
    have eA : upto (stF (h 179) set 0 c l) (i + 1).toNat 0 = stF (h 179) set 0 c l i (upto (stF (h 179) set 0 c l) i.toNat 0) := upto_s hi
    have eA2 : stF (h 179) set 0 c l i (upto (stF (h 179) set 0 c l) i.toNat 0) = if pand (pshr set i) 1 = 1 then (if dg (h 179) c l i = 6 ∧ (0 : Int) = 0 then -1 else upto (stF (h 179) set 0 c l) i.toNat 0 + dg (h 179) c l i * pw7 i) else upto (stF (h 179) set 0 c l) i.toNat 0 := by
      show (if upto (stF (h 179) set 0 c l) i.toNat 0 = -1 then _ else _) = _
      rw [if_neg hA]
    have hdead : upto (stF (h 179) set 0 c l) (i + 1).toNat 0 = -1 → gSt (h 179) set 0 c l = -1 := fun z => gSt_dead (i := i + 1) (by omega) (by omega) z
    have hwm : w32 (pw6 i * 6) = pw6 (i + 1) := by rw [ew1]; exact w32_id (by omega) (by omega)
    have hp7 := pw7_rng (m := i) hi (by omega)
    have hpsA : 0 ≤ ps (upto (stF (h 179) set 0 c l) i.toNat 0) ∧ ps (upto (stF (h 179) set 0 c l) i.toNat 0) < 2000 := by
      unfold ps
      omega
    rw [eA2] at eA
    generalize hAi : upto (stF (h 179) set 0 c l) i.toNat 0 = A at *
    rw [sh_X8_together_9]
    by_cases hb : pand (pshr set i) 1 = 1
    · rw [if_pos hb] at eA
      by_cases hg : gGo (h 179) i (d7 c i) l = -1
      · have edg : dg (h 179) c l i = 6 := by unfold dg; rw [if_neg (by omega), if_pos hg]
        rw [if_pos (hdead (by rw [eA, if_pos ⟨edg, rfl⟩]))] at K
        simp (disch := first | assumption | omega) only [st_X8_together, ↓if_pos, ↓if_neg, if_pos, if_neg, ↓reduceIte, true_and, and_true, false_and, and_false, true_or, or_true, false_or, or_false, w32_id, Kv, Kn, fup_s, fup_a, fup_k, fup_fup, Int.reduceAdd, Int.reduceSub, Int.reduceMul, Int.reduceNeg, if_pos hb, S_digit, hdd, S_goOf, hg]
        exact K
      · have edg : dg (h 179) c l i = gGo (h 179) i (d7 c i) l := by unfold dg; rw [if_neg (by omega), if_neg hg]
        rw [if_neg (fun z => by omega), edg] at eA
        have hpa := ps_add (n := i) hi (by omega) hAr.1 hAr.2 (show 0 ≤ gGo (h 179) i (d7 c i) l by omega) (by omega)
        have hmul0 : 0 ≤ gGo (h 179) i (d7 c i) l * pw7 i := Int.mul_nonneg (by omega) (by omega)
        have hne : upto (stF (h 179) set 0 c l) (i + 1).toNat 0 ≠ -1 := by rw [eA]; omega
        have hm6 : pw6 i * gGo (h 179) i (d7 c i) l ≤ 216 * 6 := Int.mul_le_mul hw.2 (by omega) (by omega) (by omega)
        have hm60 : 0 ≤ pw6 i * gGo (h 179) i (d7 c i) l := Int.mul_nonneg (by omega) (by omega)
        have hws : w32 (pw6 i * gGo (h 179) i (d7 c i) l) = pw6 i * gGo (h 179) i (d7 c i) l := w32_id (by omega) (by omega)
        have hwa : w32 (ps A + pw6 i * gGo (h 179) i (d7 c i) l) = ps A + pw6 i * gGo (h 179) i (d7 c i) l := w32_id (by omega) (by omega)
        have hK2 := hK _ ⟨some (pI (gGo (h 179) i (d7 c i) l)), hne, rfl⟩
        rw [eA, hpa, ew1] at hK2
        simp (disch := first | assumption | omega) only [st_X8_together, ↓if_pos, ↓if_neg, if_pos, if_neg, ↓reduceIte, true_and, and_true, false_and, and_false, true_or, or_true, false_or, or_false, w32_id, Kv, Kn, fup_s, fup_a, fup_k, fup_fup, Int.reduceAdd, Int.reduceSub, Int.reduceMul, Int.reduceNeg, if_pos hb, S_digit, hdd, S_goOf, hws, hwa]
        exact hK2
    · rw [if_neg hb] at eA
      have hne : upto (stF (h 179) set 0 c l) (i + 1).toNat 0 ≠ -1 := by rw [eA]; exact hA
      have hK2 := hK _ ⟨some (pI 0), hne, rfl⟩
      rw [eA, ew1] at hK2
      have hwz : ps A + pw6 i * 0 = ps A := by rw [Int.mul_zero, Int.add_zero]
      simp (disch := first | assumption | omega) only [st_X8_together, ↓if_pos, ↓if_neg, if_pos, if_neg, ↓reduceIte, true_and, and_true, false_and, and_false, true_or, or_true, false_or, or_false, w32_id, Kv, Kn, fup_s, fup_a, fup_k, fup_fup, Int.reduceAdd, Int.reduceSub, Int.reduceMul, Int.reduceNeg, if_neg hb, hwz]
      exact hK2
  · rintro L ⟨x, hA, rfl⟩
    have hA2 : gSt (h 179) set 0 c l ≠ -1 := hA
    rw [if_neg hA2] at K
    rw [sh_X8_together_9]
    simp (disch := first | assumption | omega) only [st_X8_together, ↓if_pos, ↓if_neg, if_pos, if_neg, ↓reduceIte, true_and, and_true, false_and, and_false, true_or, or_true, false_or, or_false, w32_id, Kv, Kn, fup_s, fup_a, fup_k, fup_fup, Int.reduceAdd, Int.reduceSub, Int.reduceMul, Int.reduceNeg]
    exact K
theorem S_together {set c l : Int} {nx : Nat} {h r : PF} {s : Int → Int} {Q : PO → PY → Nat → PC → Prop} (hW : WFr r) (hT : TWf (h 179)) (hV : VC (h 179) set 0 c) (hl : 0 ≤ l) (hl2 : l < 4) : Wp 200 0 [some (pR 178), some (pI set), some (pI (ps c)), some (pI l), none, none, none, none] [] LY nx (h, r, s) Q ↔ Q (Sum.inl (some (pI (if gSt (h 179) set 0 c l = -1 then -1 else ps (gSt (h 179) set 0 c l))))) LY nx (h, r, s) := Wp.eq (K_together hW hT hV hl hl2 ⟨rfl, rfl, rfl, rfl⟩)
def aeF (T : Int → Int) (set c m a : Int) : Int := if a ≠ 0 ∧ (pand (pshr set m) 1 = 1 → gS T m (d7 c m) 0 = 1) then 1 else 0
def biF (set m a : Int) : Int := a + if pand (pshr set m) 1 = 1 then 1 else 0
theorem ae_cases {T : Int → Int} {set c : Int} (hd : ∀ m, 0 ≤ m → m < 4 → d7 c m ≠ 6) : ∀ n : Nat, n ≤ 4 → upto (acF T set c) n 0 ≤ upto (biF set) n 0 ∧ (upto (aeF T set c) n 1 = 1 ∧ upto (acF T set c) n 0 = upto (biF set) n 0 ∨ upto (aeF T set c) n 1 = 0 ∧ upto (acF T set c) n 0 ≠ upto (biF set) n 0)
  | 0, _ => ⟨Int.le_refl _, Or.inl ⟨rfl, rfl⟩⟩
  | n + 1, hn => by
    have ih := ae_cases (T := T) (set := set) hd n (by omega)
    have e1 : upto (acF T set c) (n + 1) 0 = acF T set c n (upto (acF T set c) n 0) := rfl
    have e2 : upto (biF set) (n + 1) 0 = biF set n (upto (biF set) n 0) := rfl
    have e3 : upto (aeF T set c) (n + 1) 1 = aeF T set c n (upto (aeF T set c) n 1) := rfl
    rw [e1, e2, e3]
    generalize upto (acF T set c) n 0 = a at *
    generalize upto (biF set) n 0 = b at *
    generalize upto (aeF T set c) n 1 = d at *
    have h6 := hd n (by omega) (by omega)
    unfold acF biF aeF
    by_cases hb : pand (pshr set (n : Int)) 1 = 1
    · by_cases hg : gS T n (d7 c n) 0 = 1
      · rw [if_pos ⟨hb, h6, hg⟩, if_pos hb]
        rcases ih.2 with z | z
        · rw [if_pos ⟨by omega, fun _ => hg⟩]; omega
        · rw [if_neg (fun y => y.1 z.1)]; omega
      · rw [if_neg (fun z => hg z.2.2), if_pos hb, if_neg (fun z => hg (z.2 hb))]
        omega
    · rw [if_neg (fun z => hb z.1), if_neg hb]
      rcases ih.2 with z | z
      · rw [if_pos ⟨by omega, fun y => absurd y hb⟩]; omega
      · rw [if_neg (fun y => y.1 z.1)]; omega
theorem hib : ∀ k : Fin 16, ∀ n : Fin 5, ((k.val : Nat) : Int) < pshl 1 ((n.val : Nat) : Int) → upto (biF ((k.val : Nat) : Int)) n.val 0 = bcE ((k.val : Nat) : Int) := by decide +kernel
theorem bi_bc {set : Int} {n : Nat} (h : 0 ≤ set) (h2 : set < 16) (hn : n ≤ 4) (h3 : set < pshl 1 (n : Int)) : upto (biF set) n 0 = bcE set := by
  have := hib ⟨set.toNat, by omega⟩ ⟨n, by omega⟩
  simp only [Int.toNat_of_nonneg h] at this
  exact this h3
theorem pshl_16 : ∀ n : Fin 5, 1 ≤ pshl 1 ((n.val : Nat) : Int) ∧ pshl 1 ((n.val : Nat) : Int) ≤ 16 := by decide +kernel
theorem pshl_rng {n : Int} (h : 0 ≤ n) (h2 : n ≤ 4) : 1 ≤ pshl 1 n ∧ pshl 1 n ≤ 16 := by
  have := pshl_16 ⟨n.toNat, by omega⟩
  simp only [Int.toNat_of_nonneg h] at this
  exact this
theorem K_areEnds {set c : Int} {nx : Nat} {h r : PF} {s : Int → Int} {Q : PO → PY → Nat → PC → Prop} (hW : WFr r) (hT : TWf (h 179)) (hV : VC (h 179) set 0 c) (hs : 0 ≤ set) (hs2 : set < pshl 1 (h 179 1)) (K : Q (Sum.inl (some (pI (gFd (h 179) set 0 c)))) LY nx (h, r, s)) : Wp 201 0 [some (pR 178), some (pI set), some (pI (ps c)), none, none] [] LY nx (h, r, s) Q := by
  have hT0 := hT.1
  have hT1 := hT.2.1
  have hd6 := vc_d6 hT hV
  have hpr := ps_rng hd6
  have hp16 := pshl_rng hT1.1 hT1.2
  have hd : ∀ m, 0 ≤ m → m < 4 → d7 c m ≠ 6 := fun m hm hm2 => by
    have := ps_dig hd6 hm hm2
    omega
  simp (disch := first | assumption | omega) only [st_X8_areEnds, ↓if_pos, ↓if_neg, if_pos, if_neg, ↓reduceIte, true_and, and_true, false_and, and_false, true_or, or_true, false_or, or_false, w32_id, Kv, Kn, fup_s, fup_a, fup_k, fup_fup, Int.reduceAdd, Int.reduceSub, Int.reduceMul, Int.reduceNeg]
  refine loopL (Inv := fun m L => L = [some (pR 178), some (pI set), some (pI (ps c)), some (pI (upto (aeF (h 179) set c) m.toNat 1)), some (pI m)]) (a := 0) (n := h 179 1) (by omega) ?_ ?_ _ rfl
  · rintro i L hi hi2 rfl hK
    have hdd := ps_dig hd6 hi (show i < 4 by omega)
    have hdr := d7_rng (c := c) (m := i)
    have h6 := hd i hi (by omega)
    have hc01 := (ae_cases (T := (h 179)) (set := set) hd i.toNat (by omega)).2
    have eA : upto (aeF (h 179) set c) (i + 1).toNat 1 = aeF (h 179) set c i (upto (aeF (h 179) set c) i.toNat 1) := upto_s hi
    have hK2 := hK _ rfl
    rw [eA] at hK2
    generalize upto (aeF (h 179) set c) i.toNat 1 = A at *
    generalize upto (acF (h 179) set c) i.toNat 0 = A2 at *
    generalize upto (biF set) i.toNat 0 = A3 at *
    unfold aeF at hK2
    have hb01 : pand (pshr set i) 1 = 0 ∨ pand (pshr set i) 1 = 1 := pand_01 hs (by omega) hi (by omega)
    rw [sh_X8_areEnds_5]
    by_cases hA : A = 0
    · rw [if_neg (fun z => z.1 hA)] at hK2
      simp (disch := first | assumption | omega) only [st_X8_areEnds, ↓if_pos, ↓if_neg, if_pos, if_neg, ↓reduceIte, true_and, and_true, false_and, and_false, true_or, or_true, false_or, or_false, w32_id, Kv, Kn, fup_s, fup_a, fup_k, fup_fup, Int.reduceAdd, Int.reduceSub, Int.reduceMul, Int.reduceNeg, hA]
      exact hK2
    · by_cases hb : pand (pshr set i) 1 = 1
      · by_cases hg : gS (h 179) i (d7 c i) 0 = 1
        · rw [if_pos ⟨hA, fun _ => hg⟩] at hK2
          simp (disch := first | assumption | omega) only [st_X8_areEnds, ↓if_pos, ↓if_neg, if_pos, if_neg, ↓reduceIte, true_and, and_true, false_and, and_false, true_or, or_true, false_or, or_false, w32_id, Kv, Kn, fup_s, fup_a, fup_k, fup_fup, Int.reduceAdd, Int.reduceSub, Int.reduceMul, Int.reduceNeg, hb, S_digit, hdd, S_isEnd, if_pos hg]
          exact hK2
        · rw [if_neg (fun z => hg (z.2 hb))] at hK2
          simp (disch := first | assumption | omega) only [st_X8_areEnds, ↓if_pos, ↓if_neg, if_pos, if_neg, ↓reduceIte, true_and, and_true, false_and, and_false, true_or, or_true, false_or, or_false, w32_id, Kv, Kn, fup_s, fup_a, fup_k, fup_fup, Int.reduceAdd, Int.reduceSub, Int.reduceMul, Int.reduceNeg, hb, S_digit, hdd, S_isEnd, if_neg hg]
          exact hK2
      · have hb0 : pand (pshr set i) 1 = 0 := by omega
        rw [if_pos ⟨hA, fun y => absurd y hb⟩] at hK2
        simp (disch := first | assumption | omega) only [st_X8_areEnds, ↓if_pos, ↓if_neg, if_pos, if_neg, ↓reduceIte, true_and, and_true, false_and, and_false, true_or, or_true, false_or, or_false, w32_id, Kv, Kn, fup_s, fup_a, fup_k, fup_fup, Int.reduceAdd, Int.reduceSub, Int.reduceMul, Int.reduceNeg, hb0]
        exact hK2
  · rintro L rfl
    have hc := (ae_cases (T := (h 179)) (set := set) hd (h 179 1).toNat (by omega)).2
    have hbi := bi_bc (set := set) (n := (h 179 1).toNat) hs (by omega) (by omega) (by rw [Int.toNat_of_nonneg hT1.1]; exact hs2)
    have eG : upto (acF (h 179) set c) (h 179 1).toNat 0 = gAcc (h 179) set c := rfl
    rw [hbi, eG] at hc
    unfold gFd at K
    rw [if_neg (show ¬ (0 : Int) ≠ 0 from fun z => z rfl)] at K
    rw [sh_X8_areEnds_5]
    rcases hc with z | z
    · rw [if_pos z.2] at K
      rw [z.1]
      simp (disch := first | assumption | omega) only [st_X8_areEnds, ↓if_pos, ↓if_neg, if_pos, if_neg, ↓reduceIte, true_and, and_true, false_and, and_false, true_or, or_true, false_or, or_false, w32_id, Kv, Kn, fup_s, fup_a, fup_k, fup_fup, Int.reduceAdd, Int.reduceSub, Int.reduceMul, Int.reduceNeg]
      exact K
    · rw [if_neg z.2] at K
      rw [z.1]
      simp (disch := first | assumption | omega) only [st_X8_areEnds, ↓if_pos, ↓if_neg, if_pos, if_neg, ↓reduceIte, true_and, and_true, false_and, and_false, true_or, or_true, false_or, or_false, w32_id, Kv, Kn, fup_s, fup_a, fup_k, fup_fup, Int.reduceAdd, Int.reduceSub, Int.reduceMul, Int.reduceNeg]
      exact K
theorem S_areEnds {set c : Int} {nx : Nat} {h r : PF} {s : Int → Int} {Q : PO → PY → Nat → PC → Prop} (hW : WFr r) (hT : TWf (h 179)) (hV : VC (h 179) set 0 c) (hs : 0 ≤ set) (hs2 : set < pshl 1 (h 179 1)) : Wp 201 0 [some (pR 178), some (pI set), some (pI (ps c)), none, none] [] LY nx (h, r, s) Q ↔ Q (Sum.inl (some (pI (gFd (h 179) set 0 c)))) LY nx (h, r, s) := Wp.eq (K_areEnds hW hT hV hs hs2 ⟨rfl, rfl, rfl, rfl⟩)
/-- the reference's rows of a search -/
def RRel (h : PF) (S : BS) : Prop := (∀ i, 0 ≤ i → i < S.1 → h 188 i = ps (S.2.1 i)) ∧ (∀ t, 0 ≤ t → t < 1296 → (∀ i, 0 ≤ i → i < S.1 → ps (S.2.1 i) ≠ t) → h 189 t = -1) ∧ h 189 0 = 0 ∧ ∀ i, 1 ≤ i → i < S.1 → h 189 (ps (S.2.1 i)) = ps (S.2.1 (S.2.2 i / 4)) ∧ h 190 (ps (S.2.1 i)) = S.2.2 i % 4
theorem rr_add {vc : Int → Prop} {nx : Int → Int → Int} {L : Int} {h : PF} {S : BS} {c k l : Int} (hx : Ix vc ps) (hB : BOk vc nx L S) (hv : vc c) (hR : RRel h S) (hn : ∀ i, 0 ≤ i → i < S.1 → S.2.1 i ≠ c) (hk : 0 ≤ k) (hk2 : k < S.1) (hl : 0 ≤ l) (hl2 : l < 4) : RRel (fup (fup (fup h 189 (ps c) (ps (S.2.1 k))) 190 (ps c) l) 188 S.1 (ps c)) (bAdd c (k * 4 + l) S) := by
  obtain ⟨h1, h2, h3, h4⟩ := hR
  have hne : ∀ i, 0 ≤ i → i < S.1 → ps (S.2.1 i) ≠ ps c := fun i a b z => hn i a b (hx.2 _ _ (hB.2.1 i a b) hv z)
  have hB1 := hB.1
  have h00 : ps c ≠ 0 := fun z => hn 0 (by omega) (by omega) (hx.2 _ _ (hB.2.1 0 (by omega) (by omega)) hv (by rw [hB.2.2.2.1, z]; exact ps_0))
  unfold bAdd
  refine ⟨fun i a b => ?_, fun t a b g => ?_, ?_, fun i a b => ?_⟩
  · dsimp only at b ⊢
    by_cases e : i = S.1
    · rw [e, up1_s, fup_s]
    · rw [up1_k e, fup_k e, fup_a (by omega), fup_a (by omega)]
      exact h1 i a (by omega)
  · dsimp only at g
    have g1 := g S.1 (by omega) (by omega)
    rw [up1_s] at g1
    rw [fup_a (by omega), fup_a (by omega), fup_k (fun z => g1 z.symm)]
    refine h2 t a b (fun i c1 c2 => ?_)
    have g2 := g i c1 (by omega)
    rwa [up1_k (by omega)] at g2
  · rw [fup_a (by omega), fup_a (by omega), fup_k (fun z => h00 z.symm)]
    exact h3
  · dsimp only at b ⊢
    by_cases e : i = S.1
    · rw [e, up1_s, up1_s, show (k * 4 + l) / 4 = k from by omega, show (k * 4 + l) % 4 = l from by omega, up1_k (by omega)]
      exact ⟨by rw [fup_a (by omega), fup_a (by omega), fup_s], by rw [fup_a (by omega), fup_s]⟩
    · have h5 := h4 i a (by omega)
      have h6 := hB.2.2.2.2 i a (by omega)
      have h7 := hne i (by omega) (by omega)
      rw [up1_k e, up1_k e, up1_k (by omega)]
      exact ⟨by rw [fup_a (by omega), fup_a (by omega), fup_k h7]; exact h5.1, by rw [fup_a (by omega), fup_k h7]; exact h5.2⟩
theorem rr_seen {vc : Int → Prop} {nx : Int → Int → Int} {L : Int} {h : PF} {S : BS} {c : Int} (hx : Ix vc ps) (hB : BOk vc nx L S) (hv : vc c) (hR : RRel h S) : h 189 (ps c) = -1 ↔ bPl S c = 0 := by
  obtain ⟨h1, h2, h3, h4⟩ := hR
  have hB1 := hB.1
  have hpc := (hx.1 c hv).2
  rcases bPl_cases (c := c) (show 0 ≤ S.1 by omega) with z | z
  · refine ⟨fun _ => z.1, fun _ => h2 _ hpc.1 hpc.2 (fun i a b e => z.2 i a b (hx.2 _ _ (hB.2.1 i a b) hv e))⟩
  · refine ⟨fun y => ?_, fun y => absurd y (by omega)⟩
    by_cases h0 : bPl S c - 1 = 0
    · have e := z.2.2
      rw [h0, hB.2.2.2.1] at e
      rw [← e, ps_0, h3] at y
      omega
    · have h5 := (h4 (bPl S c - 1) (by omega) (by omega)).1
      have h6 := hB.2.2.2.2 (bPl S c - 1) (by omega) (by omega)
      have h7 := (hx.1 _ (hB.2.1 (S.2.2 (bPl S c - 1) / 4) (by omega) (by omega))).2
      rw [z.2.2, y] at h5
      omega
theorem bs0_eq : bS0 = (1, up1 (fun _ => 0) 0 0, up1 (fun _ => 0) 0 0) := by
  unfold bS0 bMeet bAdd
  rw [if_pos (by rfl)]
  rfl
theorem C_firstEnd {set : Int} {nx : Nat} {h r : PF} {s : Int → Int} {Q : PO → PY → Nat → PC → Prop} (hW : WFr r) (hT : TWf (h 179)) (hs : 0 ≤ set) (hs2 : set < pshl 1 (h 179 1)) (K : ∀ h' : PF, (∀ a, a < 188 ∨ 190 < a → h' a = h a) → RRel h' (bRun (gSt (h 179) set 0) (h 179 0).toNat (gFd (h 179) set 0) 1 1296 0 bS0).2 → BOk (VC (h 179) set 0) (gSt (h 179) set 0) (h 179 0) (bRun (gSt (h 179) set 0) (h 179 0).toNat (gFd (h 179) set 0) 1 1296 0 bS0).2 → Q (Sum.inl (some (pI (if (bRun (gSt (h 179) set 0) (h 179 0).toNat (gFd (h 179) set 0) 1 1296 0 bS0).1 = -1 then -1 else ps ((bRun (gSt (h 179) set 0) (h 179 0).toNat (gFd (h 179) set 0) 1 1296 0 bS0).2.2.1 (bRun (gSt (h 179) set 0) (h 179 0).toNat (gFd (h 179) set 0) 1 1296 0 bS0).1))))) LY nx (h', r, s)) : Wp 205 0 [some (pR 178), some (pI set), none, none, none, none] [] LY nx (h, r, s) Q := by
  have hT0 := hT.1
  have hT1 := hT.2.1
  have hx := ix_ps (set := set) hT
  have hv : ∀ c l, VC (h 179) set 0 c → 0 ≤ l → l < h 179 0 → gSt (h 179) set 0 c l ≠ -1 → VC (h 179) set 0 (gSt (h 179) set 0 c l) := fun c l _ h1 h2 h3 => vc_st hT h1 (by omega) h3
  simp (disch := first | assumption | omega) only [st_X8_firstEnd_0, st_X8_firstEnd_1, ↓if_pos, ↓if_neg, if_pos, if_neg, ↓reduceIte, true_and, and_true, false_and, and_false, true_or, or_true, false_or, or_false, w32_id, Kv, Kn, fup_s, fup_a, fup_k, fup_fup, Int.reduceAdd, Int.reduceSub, Int.reduceMul, Int.reduceNeg]
  refine (loopR (Lf := fun i => [some (pR 178), some (pI set), some (pI i), none, none, none]) (Hf := fun i => frng h 189 0 i (fun _ => -1)) (a := 0) (n := 1296) (by omega) (by rfl) (frng_nil (by omega)).symm ?_).mpr ?_
  · intro i hi hi2
    refine Iff.trans sh_X8_firstEnd_2 ?_
    simp (disch := first | assumption | omega) only [st_X8_firstEnd_0, st_X8_firstEnd_1, ↓if_pos, ↓if_neg, if_pos, if_neg, ↓reduceIte, true_and, and_true, false_and, and_false, true_or, or_true, false_or, or_false, w32_id, Kv, Kn, fup_s, fup_a, fup_k, fup_fup, Int.reduceAdd, Int.reduceSub, Int.reduceMul, Int.reduceNeg]
    rw [frng_end (by omega) rfl]
  · refine sh_X8_firstEnd_2.mpr ?_
    simp (disch := first | assumption | omega) only [st_X8_firstEnd_0, st_X8_firstEnd_1, ↓if_pos, ↓if_neg, if_pos, if_neg, ↓reduceIte, true_and, and_true, false_and, and_false, true_or, or_true, false_or, or_false, w32_id, Kv, Kn, fup_s, fup_a, fup_k, fup_fup, Int.reduceAdd, Int.reduceSub, Int.reduceMul, Int.reduceNeg]
    have hR0 : RRel (fup (fup (frng h 189 0 1296 (fun _ => -1)) 189 0 0) 188 0 0) bS0 := by
      rw [bs0_eq]
      refine ⟨fun i a b => ?_, fun t a b g => ?_, ?_, fun i a b => ?_⟩
      · dsimp only at b ⊢
        rw [show i = 0 from by omega, up1_s, fup_s, ps_0]
      · have g1 := g 0 (by omega) (by dsimp only; omega)
        dsimp only at g1
        rw [up1_s, ps_0] at g1
        rw [fup_a (by omega), fup_k (fun z => g1 z.symm)]
        unfold frng
        rw [if_pos (by omega)]
      · rw [fup_a (by omega), fup_s]
      · dsimp only at b
        omega
    refine loopW (Inv := fun k L H R => ∃ (S : BS) (x4 x5 : Option PV), L = [some (pR 178), some (pI set), some (pI S.1), some (pI k), x4, x5] ∧ R = r ∧ (∀ a, a < 188 ∨ 190 < a → H a = h a) ∧ RRel H S ∧ BOk (VC (h 179) set 0) (gSt (h 179) set 0) (h 179 0) S ∧ bRun (gSt (h 179) set 0) (h 179 0).toNat (gFd (h 179) set 0) 1 (1296 - k.toNat) k S = bRun (gSt (h 179) set 0) (h 179 0).toNat (gFd (h 179) set 0) 1 1296 0 bS0) (a := 0) (n := 1296) (by omega) ?_ ?_ _ _ _ ⟨bS0, none, none, by rw [bs0_eq], rfl, fun a ha => by rw [fup_r (by omega), fup_r (by omega), frng_r (by omega)], hR0, bS0_ok (vc_0 hT), rfl⟩
    · rintro k L H R hk hk2 ⟨S, x4, x5, rfl, rfl, hf, hRS, hBS, hrun⟩ hK
      have eN : 1296 - k.toNat = (1296 - (k + 1).toNat) + 1 := by omega
      rw [eN] at hrun
      have e179 : H 179 = h 179 := hf 179 (by omega)
      have hTH : TWf (H 179) := by rw [e179]; exact hT
      have hB1 := hBS.1
      rw [sh_X8_firstEnd_40]
      by_cases hkn : k < S.1
      · have hck := hRS.1 k hk hkn
        have hvc := hBS.2.1 k hk hkn
        have hvcH : VC (H 179) set 0 (S.2.1 k) := by rw [e179]; exact hvc
        have hsH : set < pshl 1 (H 179 1) := by rw [e179]; exact hs2
        rw [bRun_s (1296 - (k + 1).toNat) k S] at hrun
        rw [if_pos hkn] at hrun
        by_cases hfd : gFd (h 179) set 0 (S.2.1 k) = 1
        · rw [if_pos ⟨by decide, hfd⟩] at hrun
          have hKK := K H hf
          rw [← hrun] at hKK
          have hKK2 := hKK hRS hBS
          dsimp only at hKK2
          rw [if_neg (by omega)] at hKK2
          simp (disch := first | assumption | omega) only [st_X8_firstEnd_0, st_X8_firstEnd_1, ↓if_pos, ↓if_neg, if_pos, if_neg, ↓reduceIte, true_and, and_true, false_and, and_false, true_or, or_true, false_or, or_false, w32_id, Kv, Kn, fup_s, fup_a, fup_k, fup_fup, Int.reduceAdd, Int.reduceSub, Int.reduceMul, Int.reduceNeg, hck, S_areEnds, e179, hfd]
          exact hKK2
        · have hfd0 : gFd (h 179) set 0 (S.2.1 k) = 0 := by
            rcases gFd_01 with z | z
            · exact absurd z hfd
            · exact z
          rw [if_neg (fun z => hfd z.2)] at hrun
          simp (disch := first | assumption | omega) only [st_X8_firstEnd_0, st_X8_firstEnd_1, ↓if_pos, ↓if_neg, if_pos, if_neg, ↓reduceIte, true_and, and_true, false_and, and_false, true_or, or_true, false_or, or_false, w32_id, Kv, Kn, fup_s, fup_a, fup_k, fup_fup, Int.reduceAdd, Int.reduceSub, Int.reduceMul, Int.reduceNeg, hck, S_areEnds, e179, hfd0]
          refine loopW (Inv := fun l L H2 R2 => ∃ (x5 : Option PV), L = [some (pR 178), some (pI set), some (pI (upto (bLet (gSt (h 179) set 0) k) l.toNat S).1), some (pI k), some (pI l), x5] ∧ R2 = R ∧ (∀ a, a < 188 ∨ 190 < a → H2 a = h a) ∧ RRel H2 (upto (bLet (gSt (h 179) set 0) k) l.toNat S)) (a := 0) (n := h 179 0) (by omega) ?_ ?_ _ _ _ ⟨x5, rfl, rfl, hf, hRS⟩
          · rintro l L2 H2 R2 hl hl2 ⟨x5, rfl, rfl, hf2, hR2⟩ hK2
            have hB2 := bPlc_ok hx hv hBS hk hkn (by omega) l.toNat (by omega)
            have hl1 := hB2.2.1
            have e1792 : H2 179 = h 179 := hf2 179 (by omega)
            have hTH2 : TWf (H2 179) := by rw [e1792]; exact hT
            have hvcH2 : VC (H2 179) set 0 (S.2.1 k) := by rw [e1792]; exact hvc
            have hw : (upto (bLet (gSt (h 179) set 0) k) l.toNat S).2.1 k = S.2.1 k := (hB2.2.2 k hk hkn).1
            have hck2 := hR2.1 k hk (by omega)
            rw [hw] at hck2
            have hBn := hB2.1.1
            have eb : upto (bLet (gSt (h 179) set 0) k) (l + 1).toNat S = bLet (gSt (h 179) set 0) k l (upto (bLet (gSt (h 179) set 0) k) l.toNat S) := upto_s hl
            have eb2 : bLet (gSt (h 179) set 0) k l (upto (bLet (gSt (h 179) set 0) k) l.toNat S) = if gSt (h 179) set 0 (S.2.1 k) l = -1 then upto (bLet (gSt (h 179) set 0) k) l.toNat S else bMeet (gSt (h 179) set 0 (S.2.1 k) l) (k * 4 + l) (upto (bLet (gSt (h 179) set 0) k) l.toNat S) := by
              rw [bLet_eq, hw]
            rw [eb2] at eb
            rw [eb] at hK2
            rw [sh_X8_firstEnd_69]
            by_cases hst : gSt (h 179) set 0 (S.2.1 k) l = -1
            · rw [if_pos hst] at hK2
              have hKK := hK2 _ H2 R2 ⟨some (pI (-1)), rfl, rfl, hf2, hR2⟩
              simp (disch := first | assumption | omega) only [st_X8_firstEnd_0, st_X8_firstEnd_1, ↓if_pos, ↓if_neg, if_pos, if_neg, ↓reduceIte, true_and, and_true, false_and, and_false, true_or, or_true, false_or, or_false, w32_id, Kv, Kn, fup_s, fup_a, fup_k, fup_fup, Int.reduceAdd, Int.reduceSub, Int.reduceMul, Int.reduceNeg, hck2, S_together, e1792, if_pos hst]
              exact hKK
            · rw [if_neg hst] at hK2
              have hvs := hv _ l hvc hl hl2 hst
              have hps := (hx.1 _ hvs).2
              have hsn := rr_seen hx hB2.1 hvs hR2
              have hm := bMeet_ok hx hB2.1 hvs hk (by omega) hl hl2 (by omega) (by rw [hw])
              unfold bMeet at hK2
              by_cases hz : bPl (upto (bLet (gSt (h 179) set 0) k) l.toNat S) (gSt (h 179) set 0 (S.2.1 k) l) = 0
              · have h189 := hsn.mpr hz
                have hrm := hm.2.2 hz
                rw [if_pos hz] at hK2
                have hnn : ∀ i, 0 ≤ i → i < (upto (bLet (gSt (h 179) set 0) k) l.toNat S).1 → (upto (bLet (gSt (h 179) set 0) k) l.toNat S).2.1 i ≠ gSt (h 179) set 0 (S.2.1 k) l := by
                  rcases bPl_cases (S := upto (bLet (gSt (h 179) set 0) k) l.toNat S) (c := gSt (h 179) set 0 (S.2.1 k) l) (by omega) with z | z
                  · exact z.2
                  · exact absurd hz (by omega)
                have hra := rr_add (k := k) (l := l) hx hB2.1 hvs hR2 hnn hk (by omega) hl (by omega)
                rw [hw] at hra
                have hKK := hK2 _ _ R2 ⟨some (pI (ps (gSt (h 179) set 0 (S.2.1 k) l))), rfl, rfl, fun a ha => by rw [fup_r (by omega), fup_r (by omega), fup_r (by omega)]; exact hf2 a ha, hra⟩
                dsimp only [bAdd] at hKK
                generalize (upto (bLet (gSt (h 179) set 0) k) l.toNat S).1 = n1 at *
                simp (disch := first | assumption | omega) only [st_X8_firstEnd_0, st_X8_firstEnd_1, ↓if_pos, ↓if_neg, if_pos, if_neg, ↓reduceIte, true_and, and_true, false_and, and_false, true_or, or_true, false_or, or_false, w32_id, Kv, Kn, fup_s, fup_a, fup_k, fup_fup, Int.reduceAdd, Int.reduceSub, Int.reduceMul, Int.reduceNeg, hck2, S_together, e1792, if_neg hst, h189]
                exact hKK
              · have h189 : H2 189 (ps (gSt (h 179) set 0 (S.2.1 k) l)) ≠ -1 := fun z => hz (hsn.mp z)
                rw [if_neg hz] at hK2
                have hKK := hK2 _ H2 R2 ⟨some (pI (ps (gSt (h 179) set 0 (S.2.1 k) l))), rfl, rfl, hf2, hR2⟩
                generalize (upto (bLet (gSt (h 179) set 0) k) l.toNat S).1 = n1 at *
                simp (disch := first | assumption | omega) only [st_X8_firstEnd_0, st_X8_firstEnd_1, ↓if_pos, ↓if_neg, if_pos, if_neg, ↓reduceIte, true_and, and_true, false_and, and_false, true_or, or_true, false_or, or_false, w32_id, Kv, Kn, fup_s, fup_a, fup_k, fup_fup, Int.reduceAdd, Int.reduceSub, Int.reduceMul, Int.reduceNeg, hck2, S_together, e1792, if_neg hst]
                exact hKK
          · rintro L2 H2 R2 ⟨x5, rfl, rfl, hf2, hR2⟩
            have hB2 := bPlc_ok hx hv hBS hk hkn (by omega) (h 179 0).toNat (by omega)
            have e1792 : H2 179 = h 179 := hf2 179 (by omega)
            have hKK := hK _ H2 R2 ⟨bPlc (gSt (h 179) set 0) (h 179 0).toNat k S, some (pI (h 179 0)), x5, rfl, rfl, hf2, hR2, hB2.1, hrun⟩
            rw [sh_X8_firstEnd_69]
            unfold bPlc at hKK
            generalize (upto (bLet (gSt (h 179) set 0) k) (h 179 0).toNat S).1 = n1 at *
            simp (disch := first | assumption | omega) only [st_X8_firstEnd_0, st_X8_firstEnd_1, ↓if_pos, ↓if_neg, if_pos, if_neg, ↓reduceIte, true_and, and_true, false_and, and_false, true_or, or_true, false_or, or_false, w32_id, Kv, Kn, fup_s, fup_a, fup_k, fup_fup, Int.reduceAdd, Int.reduceSub, Int.reduceMul, Int.reduceNeg, e1792]
            exact hKK
      · rw [bRun_s (1296 - (k + 1).toNat) k S] at hrun
        rw [if_neg hkn] at hrun
        have hKK := K H hf
        rw [← hrun] at hKK
        have hKK2 := hKK hRS hBS
        rw [if_pos rfl] at hKK2
        simp (disch := first | assumption | omega) only [st_X8_firstEnd_0, st_X8_firstEnd_1, ↓if_pos, ↓if_neg, if_pos, if_neg, ↓reduceIte, true_and, and_true, false_and, and_false, true_or, or_true, false_or, or_false, w32_id, Kv, Kn, fup_s, fup_a, fup_k, fup_fup, Int.reduceAdd, Int.reduceSub, Int.reduceMul, Int.reduceNeg]
        exact hKK2
    · rintro L H R ⟨S, x4, x5, rfl, rfl, hf, hRS, hBS, hrun⟩
      have hrun2 : ((-1 : Int), S) = bRun (gSt (h 179) set 0) (h 179 0).toNat (gFd (h 179) set 0) 1 1296 0 bS0 := hrun
      have hB1 := hBS.1
      have hKK := K H hf
      rw [← hrun2] at hKK
      have hKK2 := hKK hRS hBS
      rw [if_pos rfl] at hKK2
      rw [sh_X8_firstEnd_40]
      simp (disch := first | assumption | omega) only [st_X8_firstEnd_0, st_X8_firstEnd_1, ↓if_pos, ↓if_neg, if_pos, if_neg, ↓reduceIte, true_and, and_true, false_and, and_false, true_or, or_true, false_or, or_false, w32_id, Kv, Kn, fup_s, fup_a, fup_k, fup_fup, Int.reduceAdd, Int.reduceSub, Int.reduceMul, Int.reduceNeg]
      exact hKK2
theorem K_depthOf {i L : Int} {vc : Int → Prop} {nx2 : Int → Int → Int} {S : BS} {nx : Nat} {h r : PF} {s : Int → Int} {Q : PO → PY → Nat → PC → Prop} (hW : WFr r) (hx : Ix vc ps) (hB : BOk vc nx2 L S) (hR : RRel h S) (hi : 0 ≤ i) (hi2 : i < S.1) (K : Q (Sum.inl (some (pI (dep S.2.2 i)))) LY nx (h, r, s)) : Wp 206 0 [some (pR 178), some (pI (ps (S.2.1 i))), none, none] [] LY nx (h, r, s) Q := by
  have ho := bok_par hB
  have hB1 := hB.1
  have hd := dep_rng ho i.toNat i hi hi2 (by omega)
  simp (disch := first | assumption | omega) only [st_X8_depthOf, ↓if_pos, ↓if_neg, if_pos, if_neg, ↓reduceIte, true_and, and_true, false_and, and_false, true_or, or_true, false_or, or_false, w32_id, Kv, Kn, fup_s, fup_a, fup_k, fup_fup, Int.reduceAdd, Int.reduceSub, Int.reduceMul, Int.reduceNeg]
  refine loopL (Inv := fun j L => ∃ a, (0 ≤ a ∧ a < S.1) ∧ a ≤ i - j ∧ j + dep S.2.2 a = dep S.2.2 i ∧ L = [some (pR 178), some (pI (ps (S.2.1 i))), some (pI j), some (pI (ps (S.2.1 a)))]) (a := 0) (n := 1296) (by omega) ?_ ?_ _ ⟨i, by omega, by omega, by omega, rfl⟩
  · rintro j L2 hj hj2 ⟨a, ha, ha2, hd2, rfl⟩ hK
    rw [sh_X8_depthOf_4]
    by_cases h0 : a = 0
    · have e0 : ps (S.2.1 a) = 0 := by rw [h0, hB.2.2.2.1]; exact ps_0
      rw [h0, dep_0] at hd2
      rw [show dep S.2.2 i = j from by omega] at K
      simp (disch := first | assumption | omega) only [st_X8_depthOf, ↓if_pos, ↓if_neg, if_pos, if_neg, ↓reduceIte, true_and, and_true, false_and, and_false, true_or, or_true, false_or, or_false, w32_id, Kv, Kn, fup_s, fup_a, fup_k, fup_fup, Int.reduceAdd, Int.reduceSub, Int.reduceMul, Int.reduceNeg, e0]
      exact K
    · have hpr := (hx.1 _ (hB.2.1 a ha.1 ha.2)).2
      have hn0 : ps (S.2.1 a) ≠ 0 := fun z => h0 (hB.2.2.1 a 0 ha.1 ha.2 (by omega) (by omega) (hx.2 _ _ (hB.2.1 a ha.1 ha.2) (hB.2.1 0 (by omega) (by omega)) (by rw [z, hB.2.2.2.1]; exact ps_0.symm)))
      have h189 := (hR.2.2.2 a (by omega) ha.2).1
      have hp := ho a (by omega) ha.2
      have hs := dep_s ho (show 1 ≤ a by omega) ha.2
      have hKK := hK _ ⟨S.2.2 a / 4, by omega, by omega, by omega, rfl⟩
      rw [← h189] at hKK
      simp (disch := first | assumption | omega) only [st_X8_depthOf, ↓if_pos, ↓if_neg, if_pos, if_neg, ↓reduceIte, true_and, and_true, false_and, and_false, true_or, or_true, false_or, or_false, w32_id, Kv, Kn, fup_s, fup_a, fup_k, fup_fup, Int.reduceAdd, Int.reduceSub, Int.reduceMul, Int.reduceNeg]
      exact hKK
  · rintro L2 ⟨a, ha, ha2, hd2, rfl⟩
    omega
theorem S_depthOf {i L : Int} {vc : Int → Prop} {nx2 : Int → Int → Int} {S : BS} {nx : Nat} {h r : PF} {s : Int → Int} {Q : PO → PY → Nat → PC → Prop} (hW : WFr r) (hx : Ix vc ps) (hB : BOk vc nx2 L S) (hR : RRel h S) (hi : 0 ≤ i) (hi2 : i < S.1) : Wp 206 0 [some (pR 178), some (pI (ps (S.2.1 i))), none, none] [] LY nx (h, r, s) Q ↔ Q (Sum.inl (some (pI (dep S.2.2 i)))) LY nx (h, r, s) := Wp.eq (K_depthOf hW hx hB hR hi hi2 ⟨rfl, rfl, rfl, rfl⟩)
theorem bRun_rng {nx : Int → Int → Int} {fd : Int → Int} {fs : Int} {L : Nat} : ∀ (f : Nat) (k : Int) (S : BS), 0 ≤ k → ((bRun nx L fd fs f k S).1 = -1 ∨ 0 ≤ (bRun nx L fd fs f k S).1 ∧ (bRun nx L fd fs f k S).1 < (bRun nx L fd fs f k S).2.1)
  | 0, k, S, _ => Or.inl rfl
  | f + 1, k, S, hk => by
    unfold bRun
    split
    · split
      · exact Or.inr ⟨hk, by assumption⟩
      · exact bRun_rng f (k + 1) _ (by omega)
    · exact Or.inl rfl
theorem inv_srch {h h' r r' : PF} (hI : Inv h r) (hr' : RefOk r') (e16 : r' 1 6 = r 1 6) (hc : ∀ a, a < 15 ∨ 20 < a → a ≠ 178 → a < 182 ∨ 191 < a → a ≠ 195 → h' a = h a) (h4 : h' 178 4 = h 178 4) (h12 : h' 178 12 = h 178 12) (h26 : h' 178 26 = h 178 26) (hF : SearchOk h') : Inv h' r' := by
  obtain ⟨hr, hT, hN, hR, hS, hU, hL, hX, _⟩ := hI
  have e179 : h' 179 = h 179 := hc 179 (by omega) (by omega) (by omega) (by omega)
  have e180 : h' 180 = h 180 := hc 180 (by omega) (by omega) (by omega) (by omega)
  have e192 : h' 192 = h 192 := hc 192 (by omega) (by omega) (by omega) (by omega)
  have e21 : h' 21 = h 21 := hc 21 (by omega) (by omega) (by omega) (by omega)
  unfold Inv
  rw [e179, e180, e16]
  refine ⟨hr', hT, hN, pr_fr (fun a h1 h2 => hc a (by rcases hr.2.1 with z | z <;> omega) (by rcases hr.2.1 with z | z <;> omega) (by rcases hr.2.1 with z | z <;> omega) (by rcases hr.2.1 with z | z <;> omega)) hR, sr_fr (fun a h1 h2 => hc a (by omega) (by omega) (by omega) (by omega)) hS, ?_, slot_fr hL (by rw [e21]) (hc 194 (by omega) (by omega) (by omega) (by omega)) (hc 193 (by omega) (by omega) (by omega) (by omega)) (fun a h1 h2 => hc a (by omega) (by omega) (by omega) (by omega)), text_fr hX (hc 2 (by omega) (by omega) (by omega) (by omega)) (hc 3 (by omega) (by omega) (by omega) (by omega)) (hc 181 (by omega) (by omega) (by omega) (by omega)) h4 h12, hF⟩
  obtain ⟨u1, u2, u3, u4⟩ := hU
  unfold UndoRel
  rw [e21, h26]
  refine ⟨u1, u2, u3, fun q h1 h2 => ?_⟩
  have hb := undoB_rng u3.1 u3.2 u2.1 u2.2 h1 h2
  have eu : uRow h' 192 q = uRow h 192 q := by unfold uRow; rw [e192]
  rw [eu]
  exact ⟨sr_fr (fun a h3 h4 => hc a (by omega) (by omega) (by omega) (by omega)) (u4 q h1 h2).1, (u4 q h1 h2).2⟩
theorem search_of {h h2 : PF} (hF : SearchOk h) (e3 : h2 15 3 = h 15 3) (e16 : h2 16 = h 16) (e17 : h2 17 = h 17) : SearchOk h2 := by
  unfold SearchOk
  rw [e3, e16, e17]
  exact hF
theorem L_lett {p set k i : Int} {S : BS} {nx : Nat} {h r : PF} {s : Int → Int} {Q : PO → PY → Nat → PC → Prop} (hW : WFr r) (hC : CRel h S) (ho : Par S.2.2 S.1) (hb : ∀ i, 1 ≤ i → i < S.1 → S.2.2 i < 5184) (hn : S.1 ≤ 1296) (hi : 0 ≤ i) (hi2 : i < S.1) (hk : 0 ≤ k) (hk2 : k < dep S.2.2 i) (K : Q (Sum.inl (some (pI (S.2.2 (anc S.2.2 (dep S.2.2 i - 1 - k).toNat i) % 4)))) LY nx (h, r, s)) : Wp 45 40 [some (pR 15), some (pR p), some (pI set), some (pI k), some (pI i), some (pI (dep S.2.2 i)), some (pI (dep S.2.2 i - 1))] [] LY nx (h, r, s) Q := by
  have hd := dep_rng ho i.toNat i hi hi2 (by omega)
  refine loopL (Inv := fun j L => L = [some (pR 15), some (pR p), some (pI set), some (pI k), some (pI (anc S.2.2 j.toNat i)), some (pI (dep S.2.2 i)), some (pI (dep S.2.2 i - 1 - j))]) (a := 0) (n := dep S.2.2 i - 1 - k) (by omega) ?_ ?_ _ (by rw [Int.sub_zero]; rfl)
  · rintro j L hj hj2 rfl hK
    have ha := anc_dep ho hi hi2 j.toNat (by omega)
    have h1 : anc S.2.2 j.toNat i ≠ 0 := by
      intro z
      rw [z, dep_0] at ha
      omega
    have hp := ho _ (show 1 ≤ anc S.2.2 j.toNat i by omega) ha.1.2
    have hb2 := hb _ (show 1 ≤ anc S.2.2 j.toNat i by omega) ha.1.2
    have h18 := (hC.2.1 _ ha.1.1 ha.1.2).2
    have hpd : pdiv (S.2.2 (anc S.2.2 j.toNat i)) 4 = S.2.2 (anc S.2.2 j.toNat i) / 4 := pdiv_nn hp.1 (by omega) (by omega) (by omega)
    have hK2 := hK _ rfl
    rw [show (j + 1).toNat = j.toNat + 1 from by omega, show dep S.2.2 i - 1 - (j + 1) = dep S.2.2 i - 1 - j + -1 from by omega] at hK2
    unfold anc at hK2
    generalize anc S.2.2 j.toNat i = A at *
    rw [sh_X4_letterTogether_40]
    simp (disch := first | assumption | omega) only [st_X4_letterTogether, ↓if_pos, ↓if_neg, if_pos, if_neg, ↓reduceIte, true_and, and_true, false_and, and_false, true_or, or_true, false_or, or_false, w32_id, Kv, Kn, fup_s, fup_a, fup_k, fup_fup, Int.reduceAdd, Int.reduceSub, Int.reduceMul, Int.reduceNeg, h18, hpd]
    exact hK2
  · rintro L rfl
    have ha := anc_dep ho hi hi2 (dep S.2.2 i - 1 - k).toNat (by omega)
    have h1 : anc S.2.2 (dep S.2.2 i - 1 - k).toNat i ≠ 0 := by
      intro z
      rw [z, dep_0] at ha
      omega
    generalize anc S.2.2 (dep S.2.2 i - 1 - k).toNat i = A at *
    have hp := ho A (by omega) ha.1.2
    have hb2 := hb A (by omega) ha.1.2
    have h18 := (hC.2.1 _ ha.1.1 ha.1.2).2
    have hpd : prem (S.2.2 A) 4 = S.2.2 A % 4 := prem_nn hp.1 (by omega) (by omega) (by omega)
    rw [sh_X4_letterTogether_40]
    simp (disch := first | assumption | omega) only [st_X4_letterTogether, ↓if_pos, ↓if_neg, if_pos, if_neg, ↓reduceIte, true_and, and_true, false_and, and_false, true_or, or_true, false_or, or_false, w32_id, Kv, Kn, fup_s, fup_a, fup_k, fup_fup, Int.reduceAdd, Int.reduceSub, Int.reduceMul, Int.reduceNeg, h18, hpd]
    exact K
theorem M_lett {set k i e L0 : Int} {vc : Int → Prop} {nx2 : Int → Int → Int} {S : BS} {nx : Nat} {h r : PF} {s : Int → Int} {Q : PO → PY → Nat → PC → Prop} (hW : WFr r) (hx : Ix vc ps) (hB : BOk vc nx2 L0 S) (hR : RRel h S) (hi : 0 ≤ i) (hi2 : i < S.1) (hk : 0 ≤ k) (hk2 : k < dep S.2.2 i) (K : Q (Sum.inl (some (pI (S.2.2 (anc S.2.2 (dep S.2.2 i - 1 - k).toNat i) % 4)))) LY nx (h, r, s)) : Wp 208 55 [some (pR 178), some (pI set), some (pI k), some (pI e), some (pI (dep S.2.2 i)), some (pI (ps (S.2.1 i))), some (pI (dep S.2.2 i - 1))] [] LY nx (h, r, s) Q := by
  have ho := bok_par hB
  have hB1 := hB.1
  have hd := dep_rng ho i.toNat i hi hi2 (by omega)
  refine loopL (Inv := fun j L => L = [some (pR 178), some (pI set), some (pI k), some (pI e), some (pI (dep S.2.2 i)), some (pI (ps (S.2.1 (anc S.2.2 j.toNat i)))), some (pI (dep S.2.2 i - 1 - j))]) (a := 0) (n := dep S.2.2 i - 1 - k) (by omega) ?_ ?_ _ (by rw [Int.sub_zero]; rfl)
  · rintro j L hj hj2 rfl hK
    have ha := anc_dep ho hi hi2 j.toNat (by omega)
    have h1 : anc S.2.2 j.toNat i ≠ 0 := by
      intro z
      rw [z, dep_0] at ha
      omega
    have hpr := (hx.1 _ (hB.2.1 _ ha.1.1 ha.1.2)).2
    have h189 := (hR.2.2.2 _ (show 1 ≤ anc S.2.2 j.toNat i by omega) ha.1.2).1
    have hK2 := hK _ rfl
    rw [show (j + 1).toNat = j.toNat + 1 from by omega, show dep S.2.2 i - 1 - (j + 1) = dep S.2.2 i - 1 - j + -1 from by omega] at hK2
    unfold anc at hK2
    rw [← h189] at hK2
    generalize anc S.2.2 j.toNat i = A at *
    rw [sh_X8_shortestLetter_55]
    simp (disch := first | assumption | omega) only [st_X8_shortestLetter, ↓if_pos, ↓if_neg, if_pos, if_neg, ↓reduceIte, true_and, and_true, false_and, and_false, true_or, or_true, false_or, or_false, w32_id, Kv, Kn, fup_s, fup_a, fup_k, fup_fup, Int.reduceAdd, Int.reduceSub, Int.reduceMul, Int.reduceNeg]
    exact hK2
  · rintro L rfl
    have ha := anc_dep ho hi hi2 (dep S.2.2 i - 1 - k).toNat (by omega)
    have h1 : anc S.2.2 (dep S.2.2 i - 1 - k).toNat i ≠ 0 := by
      intro z
      rw [z, dep_0] at ha
      omega
    generalize anc S.2.2 (dep S.2.2 i - 1 - k).toNat i = A at *
    have hpr := (hx.1 _ (hB.2.1 _ ha.1.1 ha.1.2)).2
    have h190 := (hR.2.2.2 A (by omega) ha.1.2).2
    rw [← h190] at K
    rw [sh_X8_shortestLetter_55]
    simp (disch := first | assumption | omega) only [st_X8_shortestLetter, ↓if_pos, ↓if_neg, if_pos, if_neg, ↓reduceIte, true_and, and_true, false_and, and_false, true_or, or_true, false_or, or_false, w32_id, Kv, Kn, fup_s, fup_a, fup_k, fup_fup, Int.reduceAdd, Int.reduceSub, Int.reduceMul, Int.reduceNeg]
    exact K
theorem Q_21 {i : Int} {l5 l6 : Option PV} {nx : Nat} {h r : PF} {s : Int → Int} {Q : PO → PY → Nat → PC → Prop} (hI : Inv h r) (hi : 0 ≤ i) (hi2 : i + 5 < s (-1)) (hi3 : s (-1) ≤ 4000) (H : ∀ (a b : Option PV) (nx' : Nat) (h' r' : PF), Inv h' r' → nx' ≤ nx + 1 → Wp 257 2079 [some (pR (-1000)), some (pR 1), some (pR 178), some (pR 195), some (pI i), a, b, none] [] LY nx' (h', r', s) Q) : Wp 257 1303 [some (pR (-1000)), some (pR 1), some (pR 178), some (pR 195), some (pI i), l5, l6, none] [] LY nx (h, r, s) Q := by
  obtain ⟨hW, hp0, hp1, hp2, hpk, hP, hS0, hk144, hT, hN, hR, hS, ep0, ep1, ep3, ep4, hT0, hT1⟩ := beg_of hI
  have k153 : kd LY 153 = (1, 80) := by decide +kernel
  have k152 : kd LY 152 = (1, 6) := by decide +kernel
  have k151 : kd LY 151 = (1, 60) := by decide +kernel
  obtain ⟨⟨hs0, hsk⟩, ⟨hsr0, hsp0, hsd0⟩, ⟨hsr1, hsp1, hsd1⟩, ⟨hsr2, hsp2, hsd2⟩, ⟨hsr3, hsp3, hsd3⟩, ⟨hsr4, hsp4, hsd4⟩, ⟨hsr5, hsp5, hsd5⟩, ⟨hsr6, hsp6, hsd6⟩, ⟨hsr7, hsp7, hsd7⟩, ⟨hsr12, hsp12, hsd12⟩⟩ := stok_144 hW
  have hp16 := pshl_rng hT1.1 hT1.2
  have hwp : w32 (pshl 1 (h 179 1) - 1) = pshl 1 (h 179 1) - 1 := w32_id (by omega) (by omega)
  by_cases hm : s (i + 1) < 0 ∨ pshl 1 (h 179 1) ≤ s (i + 1)
  · simp (disch := first | assumption | omega | (simp (disch := omega) only [fup_s, fup_k, fup_a, fup_r, frow_s, frow_r, frow_sk, frow_rk, fcpy_r, frng_r]; assumption) | (simp (disch := omega) only [fup_s, fup_k, fup_a, fup_r, frow_s, frow_r, frow_sk, frow_rk, fcpy_r, frng_r]; omega)) only [st_law_21, st_L_shortest, st_X7_shortest, st_X8_shortest, st_X8_noSet, ↓if_pos, ↓if_neg, if_pos, if_neg, ↓reduceIte, true_and, and_true, false_and, and_false, true_or, or_true, false_or, or_false, w32_id, Kv, Kn, fup_s, fup_a, fup_k, fup_fup, Int.reduceAdd, Int.reduceSub, Int.reduceMul, Int.reduceNeg, S_thrown, fup_s, fup_k, fup_a, fup_r, frow_s, frow_r, frow_sk, frow_rk, fcpy_r, frng_r, plcmp_eq, S_checkSet, S_within, S_throwsIf, kh_L_shortest_1, kx_X7_shortest, ep1, hwp]
    all_goals ((try split) <;> exact H _ _ _ _ _ (inv_same hI ⟨fun a ha => by unfold Core at ha; simp (disch := omega) only [fup_r, frow_r], by simp (disch := omega) only [fup_k, fup_a, frow_rk], by simp (disch := omega) only [fup_k, fup_a, frow_rk], by simp (disch := omega) only [fup_k, fup_a, frow_rk]⟩) (by omega))
  have hm1 : 0 ≤ s (i + 1) ∧ s (i + 1) < pshl 1 (h 179 1) := by omega
  have hp20 : 20 < r 1 6 := by omega
  simp (disch := first | assumption | omega | (simp (disch := omega) only [fup_s, fup_k, fup_a, fup_r, frow_s, frow_r, frow_sk, frow_rk, fcpy_r, frng_r]; assumption) | (simp (disch := omega) only [fup_s, fup_k, fup_a, fup_r, frow_s, frow_r, frow_sk, frow_rk, fcpy_r, frng_r]; omega)) only [st_law_21, st_L_shortest, st_X7_shortest, st_X4_lengthTogether, ↓if_pos, ↓if_neg, if_pos, if_neg, ↓reduceIte, true_and, and_true, false_and, and_false, true_or, or_true, false_or, or_false, w32_id, Kv, Kn, fup_s, fup_a, fup_k, fup_fup, Int.reduceAdd, Int.reduceSub, Int.reduceMul, Int.reduceNeg, S_thrown, fup_s, fup_k, fup_a, fup_r, frow_s, frow_r, frow_sk, frow_rk, fcpy_r, frng_r, plcmp_eq, S_checkSet, S_within, S_throwsIf, ep1]
  refine C_begin hW (search_of hI.2.2.2.2.2.2.2.2 (by simp (disch := omega) only [fup_s, fup_k, fup_a, fup_r, frow_s, frow_r, frow_sk, frow_rk, fcpy_r, frng_r]) (by simp (disch := omega) only [fup_s, fup_k, fup_a, fup_r, frow_s, frow_r, frow_sk, frow_rk, fcpy_r, frng_r]) (by simp (disch := omega) only [fup_s, fup_k, fup_a, fup_r, frow_s, frow_r, frow_sk, frow_rk, fcpy_r, frng_r])) (Or.inl rfl) (fun h1 f1 g6 g7 hC1 => ?_)
  (try simp (disch := omega) only [fup_s, fup_k, fup_a, fup_r, frow_s, frow_r, frow_sk, frow_rk, fcpy_r, frng_r] at f1)
  simp (disch := first | assumption | omega | (simp (disch := omega) only [fup_s, fup_k, fup_a, fup_r, frow_s, frow_r, frow_sk, frow_rk, fcpy_r, frng_r]; assumption) | (simp (disch := omega) only [fup_s, fup_k, fup_a, fup_r, frow_s, frow_r, frow_sk, frow_rk, fcpy_r, frng_r]; omega)) only [st_law_21, st_L_shortest, st_X7_shortest, st_X4_lengthTogether, ↓if_pos, ↓if_neg, if_pos, if_neg, ↓reduceIte, true_and, and_true, false_and, and_false, true_or, or_true, false_or, or_false, w32_id, Kv, Kn, fup_s, fup_a, fup_k, fup_fup, Int.reduceAdd, Int.reduceSub, Int.reduceMul, Int.reduceNeg, S_thrown, fup_s, fup_k, fup_a, fup_r, frow_s, frow_r, frow_sk, frow_rk, fcpy_r, frng_r, plcmp_eq]
  refine C_explore (ix := ps) hW hP hp20 hT (pr_fr (fun a z1 z2 => f1 a (by omega)) hR) g6 g7 (Or.inl rfl) (Or.inr rfl) (ix_ps hT) hC1 (bS0_ok (vc_0 hT)) (fun h2 f2 g62 g72 hC2 hB2 hL2 => ?_)
  have hf2 : ∀ a, a < 15 ∨ 18 < a → h2 a = h a := fun a ha => by rw [f2 a ha, f1 a ha]
  have hrr := bRun_rng (nx := gSt (h 179) (s (i + 1)) 0) (L := (h 179 0).toNat) (fd := gFd (h 179) (s (i + 1)) 0) (fs := 1) 1296 0 bS0 (by omega)
  have hF2 := crel_ok (ix_ps hT) hB2 hC2
  have hB21 := hB2.1
  have e178 := hf2 178 (by omega)
  have e179 := hf2 179 (by omega)
  have e1791 : h2 179 1 = h 179 1 := by rw [e179]
  have hT2 : TWf (h2 179) := by rw [e179]; exact hT
  have hs2 : s (i + 1) < pshl 1 (h2 179 1) := by rw [e179]; exact hm1.2
  have hFE := fun (nx : Nat) (H R : PF) (s' : Int → Int) (Q : PO → PY → Nat → PC → Prop) (e : H 179 = h 179) (hWR : WFr R) => @C_firstEnd (s (i + 1)) nx H R s' Q hWR (by rw [e]; exact hT) hm1.1 (by rw [e]; exact hm1.2)
  generalize hRes : bRun (gSt (h 179) (s (i + 1)) 0) (h 179 0).toNat (gFd (h 179) (s (i + 1)) 0) 1 1296 0 bS0 = Res at *
  obtain ⟨k, S⟩ := Res
  dsimp only at hC2 hB2 hrr hB21
  simp (disch := first | assumption | omega | (simp (disch := omega) only [fup_s, fup_k, fup_a, fup_r, frow_s, frow_r, frow_sk, frow_rk, fcpy_r, frng_r]; assumption) | (simp (disch := omega) only [fup_s, fup_k, fup_a, fup_r, frow_s, frow_r, frow_sk, frow_rk, fcpy_r, frng_r]; omega)) only [st_law_21, st_L_shortest, st_X7_shortest, st_X4_lengthTogether, st_X8_shortest, st_X8_noSet, ↓if_pos, ↓if_neg, if_pos, if_neg, ↓reduceIte, true_and, and_true, false_and, and_false, true_or, or_true, false_or, or_false, w32_id, Kv, Kn, fup_s, fup_a, fup_k, fup_fup, Int.reduceAdd, Int.reduceSub, Int.reduceMul, Int.reduceNeg, S_thrown, fup_s, fup_k, fup_a, fup_r, frow_s, frow_r, frow_sk, frow_rk, fcpy_r, frng_r, plcmp_eq, S_checkSet, S_within, S_throwsIf, C_lengthTo hW hC2 (bok_par hB2) (fun i z1 z2 => (bok_o hB2 hT0.2 z1 z2).2) hB21.2 (show -1 ≤ k by omega) (show k < S.1 by omega), e179, hwp]
  refine hFE _ _ _ _ _ (by simp (disch := omega) only [fup_s, fup_k, fup_a, fup_r, frow_s, frow_r, frow_sk, frow_rk, fcpy_r, frng_r, e179]) hW (fun h3 f3 hR3 hB3 => ?_)
  simp (disch := omega) only [fup_s, fup_k, fup_a, fup_r, frow_s, frow_r, frow_sk, frow_rk, fcpy_r, frng_r, e179] at f3 hR3 hB3 ⊢
  rw [hRes] at hR3 hB3 ⊢
  dsimp only at hR3 hB3 ⊢
  have e1780 : h3 178 0 = 0 := by rw [f3 178 (by omega)]; simp (disch := omega) only [fup_s, fup_k, fup_a, fup_r, frow_s, frow_r, frow_sk, frow_rk, fcpy_r, frng_r]
  have e1950 : h3 195 0 = (if k = -1 then -1 else dep S.2.2 k) := by rw [f3 195 (by omega)]; simp (disch := omega) only [fup_s, fup_k, fup_a, fup_r, frow_s, frow_r, frow_sk, frow_rk, fcpy_r, frng_r]
  have hinv : Inv h3 r := inv_srch hI hI.1 rfl (fun a g1 g2 g3 g4 => by rw [f3 a (by omega)]; simp (disch := omega) only [fup_s, fup_k, fup_a, fup_r, frow_s, frow_r, frow_sk, frow_rk, fcpy_r, frng_r]; exact hf2 a (by omega)) (by rw [f3 178 (by omega)]; simp (disch := omega) only [fup_s, fup_k, fup_a, fup_r, frow_s, frow_r, frow_sk, frow_rk, fcpy_r, frng_r]; rw [e178]) (by rw [f3 178 (by omega)]; simp (disch := omega) only [fup_s, fup_k, fup_a, fup_r, frow_s, frow_r, frow_sk, frow_rk, fcpy_r, frng_r]; rw [e178]) (by rw [f3 178 (by omega)]; simp (disch := omega) only [fup_s, fup_k, fup_a, fup_r, frow_s, frow_r, frow_sk, frow_rk, fcpy_r, frng_r]; rw [e178]) (search_of hF2 (by rw [f3 15 (by omega)]; simp (disch := omega) only [fup_s, fup_k, fup_a, fup_r, frow_s, frow_r, frow_sk, frow_rk, fcpy_r, frng_r]) (by rw [f3 16 (by omega)]; simp (disch := omega) only [fup_s, fup_k, fup_a, fup_r, frow_s, frow_r, frow_sk, frow_rk, fcpy_r, frng_r]) (by rw [f3 17 (by omega)]; simp (disch := omega) only [fup_s, fup_k, fup_a, fup_r, frow_s, frow_r, frow_sk, frow_rk, fcpy_r, frng_r]))
  by_cases hk : k = -1
  · rw [if_pos hk] at e1950 ⊢
    simp (disch := first | assumption | omega | (simp (disch := omega) only [fup_s, fup_k, fup_a, fup_r, frow_s, frow_r, frow_sk, frow_rk, fcpy_r, frng_r]; assumption) | (simp (disch := omega) only [fup_s, fup_k, fup_a, fup_r, frow_s, frow_r, frow_sk, frow_rk, fcpy_r, frng_r]; omega)) only [st_law_21, st_L_shortest, st_X8_shortest, ↓if_pos, ↓if_neg, if_pos, if_neg, ↓reduceIte, true_and, and_true, false_and, and_false, true_or, or_true, false_or, or_false, w32_id, Kv, Kn, fup_s, fup_a, fup_k, fup_fup, Int.reduceAdd, Int.reduceSub, Int.reduceMul, Int.reduceNeg, S_thrown, fup_s, fup_k, fup_a, fup_r, frow_s, frow_r, frow_sk, frow_rk, fcpy_r, frng_r, plcmp_eq, e1780, e1950]
    exact H _ _ _ _ _ hinv (by omega)
  · have hpk := ((ix_ps (set := s (i + 1)) hT).1 _ (hB3.2.1 k (by omega) (by omega))).2
    rw [if_neg hk] at e1950 ⊢
    simp (disch := first | assumption | omega | (simp (disch := omega) only [fup_s, fup_k, fup_a, fup_r, frow_s, frow_r, frow_sk, frow_rk, fcpy_r, frng_r]; assumption) | (simp (disch := omega) only [fup_s, fup_k, fup_a, fup_r, frow_s, frow_r, frow_sk, frow_rk, fcpy_r, frng_r]; omega)) only [st_law_21, st_L_shortest, st_X8_shortest, ↓if_pos, ↓if_neg, if_pos, if_neg, ↓reduceIte, true_and, and_true, false_and, and_false, true_or, or_true, false_or, or_false, w32_id, Kv, Kn, fup_s, fup_a, fup_k, fup_fup, Int.reduceAdd, Int.reduceSub, Int.reduceMul, Int.reduceNeg, S_thrown, fup_s, fup_k, fup_a, fup_r, frow_s, frow_r, frow_sk, frow_rk, fcpy_r, frng_r, plcmp_eq, e1780, e1950, S_depthOf hW (ix_ps hT) hB3 hR3 (show 0 ≤ k by omega) (show k < S.1 by omega)]
    exact H _ _ _ _ _ hinv (by omega)
theorem Q_22 {i : Int} {l5 l6 : Option PV} {nx : Nat} {h r : PF} {s : Int → Int} {Q : PO → PY → Nat → PC → Prop} (hI : Inv h r) (hi : 0 ≤ i) (hi2 : i + 5 < s (-1)) (hi3 : s (-1) ≤ 4000) (H : ∀ (a b : Option PV) (nx' : Nat) (h' r' : PF), Inv h' r' → nx' ≤ nx + 1 → Wp 257 2079 [some (pR (-1000)), some (pR 1), some (pR 178), some (pR 195), some (pI i), a, b, none] [] LY nx' (h', r', s) Q) : Wp 257 1359 [some (pR (-1000)), some (pR 1), some (pR 178), some (pR 195), some (pI i), l5, l6, none] [] LY nx (h, r, s) Q := by
  obtain ⟨hW, hp0, hp1, hp2, hpk, hP, hS0, hk144, hT, hN, hR, hS, ep0, ep1, ep3, ep4, hT0, hT1⟩ := beg_of hI
  have k153 : kd LY 153 = (1, 80) := by decide +kernel
  have k152 : kd LY 152 = (1, 6) := by decide +kernel
  have k151 : kd LY 151 = (1, 60) := by decide +kernel
  obtain ⟨⟨hs0, hsk⟩, ⟨hsr0, hsp0, hsd0⟩, ⟨hsr1, hsp1, hsd1⟩, ⟨hsr2, hsp2, hsd2⟩, ⟨hsr3, hsp3, hsd3⟩, ⟨hsr4, hsp4, hsd4⟩, ⟨hsr5, hsp5, hsd5⟩, ⟨hsr6, hsp6, hsd6⟩, ⟨hsr7, hsp7, hsd7⟩, ⟨hsr12, hsp12, hsd12⟩⟩ := stok_144 hW
  have hp16 := pshl_rng hT1.1 hT1.2
  have hwp : w32 (pshl 1 (h 179 1) - 1) = pshl 1 (h 179 1) - 1 := w32_id (by omega) (by omega)
  by_cases hm : s (i + 1) < 0 ∨ pshl 1 (h 179 1) ≤ s (i + 1)
  · simp (disch := first | assumption | omega | (simp (disch := omega) only [fup_s, fup_k, fup_a, fup_r, frow_s, frow_r, frow_sk, frow_rk, fcpy_r, frng_r]; assumption) | (simp (disch := omega) only [fup_s, fup_k, fup_a, fup_r, frow_s, frow_r, frow_sk, frow_rk, fcpy_r, frng_r]; omega)) only [st_law_22, st_L_shortestLetter, st_X7_shortestLetter, st_X8_shortestLetter, st_X8_noSet, ↓if_pos, ↓if_neg, if_pos, if_neg, ↓reduceIte, true_and, and_true, false_and, and_false, true_or, or_true, false_or, or_false, w32_id, Kv, Kn, fup_s, fup_a, fup_k, fup_fup, Int.reduceAdd, Int.reduceSub, Int.reduceMul, Int.reduceNeg, S_thrown, fup_s, fup_k, fup_a, fup_r, frow_s, frow_r, frow_sk, frow_rk, fcpy_r, frng_r, plcmp_eq, S_checkSet, S_within, S_throwsIf, kh_L_shortestLetter_1, kx_X7_shortestLetter, ep1, hwp]
    all_goals ((try split) <;> exact H _ _ _ _ _ (inv_same hI ⟨fun a ha => by unfold Core at ha; simp (disch := omega) only [fup_r, frow_r], by simp (disch := omega) only [fup_k, fup_a, frow_rk], by simp (disch := omega) only [fup_k, fup_a, frow_rk], by simp (disch := omega) only [fup_k, fup_a, frow_rk]⟩) (by omega))
  have hm1 : 0 ≤ s (i + 1) ∧ s (i + 1) < pshl 1 (h 179 1) := by omega
  have hp20 : 20 < r 1 6 := by omega
  simp (disch := first | assumption | omega | (simp (disch := omega) only [fup_s, fup_k, fup_a, fup_r, frow_s, frow_r, frow_sk, frow_rk, fcpy_r, frng_r]; assumption) | (simp (disch := omega) only [fup_s, fup_k, fup_a, fup_r, frow_s, frow_r, frow_sk, frow_rk, fcpy_r, frng_r]; omega)) only [st_law_22, st_L_shortestLetter, st_X7_shortestLetter, st_X4_letterTogether, ↓if_pos, ↓if_neg, if_pos, if_neg, ↓reduceIte, true_and, and_true, false_and, and_false, true_or, or_true, false_or, or_false, w32_id, Kv, Kn, fup_s, fup_a, fup_k, fup_fup, Int.reduceAdd, Int.reduceSub, Int.reduceMul, Int.reduceNeg, S_thrown, fup_s, fup_k, fup_a, fup_r, frow_s, frow_r, frow_sk, frow_rk, fcpy_r, frng_r, plcmp_eq, S_checkSet, S_within, S_throwsIf, ep1]
  refine C_begin hW (search_of hI.2.2.2.2.2.2.2.2 (by simp (disch := omega) only [fup_s, fup_k, fup_a, fup_r, frow_s, frow_r, frow_sk, frow_rk, fcpy_r, frng_r]) (by simp (disch := omega) only [fup_s, fup_k, fup_a, fup_r, frow_s, frow_r, frow_sk, frow_rk, fcpy_r, frng_r]) (by simp (disch := omega) only [fup_s, fup_k, fup_a, fup_r, frow_s, frow_r, frow_sk, frow_rk, fcpy_r, frng_r])) (Or.inl rfl) (fun h1 f1 g6 g7 hC1 => ?_)
  (try simp (disch := omega) only [fup_s, fup_k, fup_a, fup_r, frow_s, frow_r, frow_sk, frow_rk, fcpy_r, frng_r] at f1)
  simp (disch := first | assumption | omega | (simp (disch := omega) only [fup_s, fup_k, fup_a, fup_r, frow_s, frow_r, frow_sk, frow_rk, fcpy_r, frng_r]; assumption) | (simp (disch := omega) only [fup_s, fup_k, fup_a, fup_r, frow_s, frow_r, frow_sk, frow_rk, fcpy_r, frng_r]; omega)) only [st_law_22, st_L_shortestLetter, st_X7_shortestLetter, st_X4_letterTogether, ↓if_pos, ↓if_neg, if_pos, if_neg, ↓reduceIte, true_and, and_true, false_and, and_false, true_or, or_true, false_or, or_false, w32_id, Kv, Kn, fup_s, fup_a, fup_k, fup_fup, Int.reduceAdd, Int.reduceSub, Int.reduceMul, Int.reduceNeg, S_thrown, fup_s, fup_k, fup_a, fup_r, frow_s, frow_r, frow_sk, frow_rk, fcpy_r, frng_r, plcmp_eq]
  refine C_explore (ix := ps) hW hP hp20 hT (pr_fr (fun a z1 z2 => f1 a (by omega)) hR) g6 g7 (Or.inl rfl) (Or.inr rfl) (ix_ps hT) hC1 (bS0_ok (vc_0 hT)) (fun h2 f2 g62 g72 hC2 hB2 hL2 => ?_)
  have hf2 : ∀ a, a < 15 ∨ 18 < a → h2 a = h a := fun a ha => by rw [f2 a ha, f1 a ha]
  have hrr := bRun_rng (nx := gSt (h 179) (s (i + 1)) 0) (L := (h 179 0).toNat) (fd := gFd (h 179) (s (i + 1)) 0) (fs := 1) 1296 0 bS0 (by omega)
  have hF2 := crel_ok (ix_ps hT) hB2 hC2
  have hB21 := hB2.1
  have e178 := hf2 178 (by omega)
  have e179 := hf2 179 (by omega)
  have e1791 : h2 179 1 = h 179 1 := by rw [e179]
  have hT2 : TWf (h2 179) := by rw [e179]; exact hT
  have hs2 : s (i + 1) < pshl 1 (h2 179 1) := by rw [e179]; exact hm1.2
  have hFE := fun (nx : Nat) (H R : PF) (s' : Int → Int) (Q : PO → PY → Nat → PC → Prop) (e : H 179 = h 179) (hWR : WFr R) => @C_firstEnd (s (i + 1)) nx H R s' Q hWR (by rw [e]; exact hT) hm1.1 (by rw [e]; exact hm1.2)
  generalize hRes : bRun (gSt (h 179) (s (i + 1)) 0) (h 179 0).toNat (gFd (h 179) (s (i + 1)) 0) 1 1296 0 bS0 = Res at *
  obtain ⟨k, S⟩ := Res
  dsimp only at hC2 hB2 hrr hB21
  by_cases hk : k = -1
  · by_cases hx3 : s (i + 2) < 0
    all_goals
      simp (disch := first | assumption | omega | (simp (disch := omega) only [fup_s, fup_k, fup_a, fup_r, frow_s, frow_r, frow_sk, frow_rk, fcpy_r, frng_r]; assumption) | (simp (disch := omega) only [fup_s, fup_k, fup_a, fup_r, frow_s, frow_r, frow_sk, frow_rk, fcpy_r, frng_r]; omega)) only [st_law_22, st_L_shortestLetter, st_X7_shortestLetter, st_X4_letterTogether, st_X8_shortestLetter, st_X8_noSet, ↓if_pos, ↓if_neg, if_pos, if_neg, ↓reduceIte, true_and, and_true, false_and, and_false, true_or, or_true, false_or, or_false, w32_id, Kv, Kn, fup_s, fup_a, fup_k, fup_fup, Int.reduceAdd, Int.reduceSub, Int.reduceMul, Int.reduceNeg, S_thrown, fup_s, fup_k, fup_a, fup_r, frow_s, frow_r, frow_sk, frow_rk, fcpy_r, frng_r, plcmp_eq, S_checkSet, S_within, S_throwsIf, C_lengthTo hW hC2 (bok_par hB2) (fun i z1 z2 => (bok_o hB2 hT0.2 z1 z2).2) hB21.2 (show -1 ≤ k by omega) (show k < S.1 by omega), if_pos hk, e179, hwp]
      refine hFE _ _ _ _ _ (by simp (disch := omega) only [fup_s, fup_k, fup_a, fup_r, frow_s, frow_r, frow_sk, frow_rk, fcpy_r, frng_r, e179]) hW (fun h3 f3 hR3 hB3 => ?_)
      simp (disch := omega) only [fup_s, fup_k, fup_a, fup_r, frow_s, frow_r, frow_sk, frow_rk, fcpy_r, frng_r, e179] at f3 hR3 hB3 ⊢
      rw [hRes] at hR3 hB3 ⊢
      dsimp only at hR3 hB3 ⊢
      have e1780 : h3 178 0 = 0 := by rw [f3 178 (by omega)]; simp (disch := omega) only [fup_s, fup_k, fup_a, fup_r, frow_s, frow_r, frow_sk, frow_rk, fcpy_r, frng_r]
      have e1950 : h3 195 0 = (-1) := by rw [f3 195 (by omega)]; simp (disch := omega) only [fup_s, fup_k, fup_a, fup_r, frow_s, frow_r, frow_sk, frow_rk, fcpy_r, frng_r]
      have hinv : Inv h3 r := inv_srch hI hI.1 rfl (fun a g1 g2 g3 g4 => by rw [f3 a (by omega)]; simp (disch := omega) only [fup_s, fup_k, fup_a, fup_r, frow_s, frow_r, frow_sk, frow_rk, fcpy_r, frng_r]; exact hf2 a (by omega)) (by rw [f3 178 (by omega)]; simp (disch := omega) only [fup_s, fup_k, fup_a, fup_r, frow_s, frow_r, frow_sk, frow_rk, fcpy_r, frng_r]; rw [e178]) (by rw [f3 178 (by omega)]; simp (disch := omega) only [fup_s, fup_k, fup_a, fup_r, frow_s, frow_r, frow_sk, frow_rk, fcpy_r, frng_r]; rw [e178]) (by rw [f3 178 (by omega)]; simp (disch := omega) only [fup_s, fup_k, fup_a, fup_r, frow_s, frow_r, frow_sk, frow_rk, fcpy_r, frng_r]; rw [e178]) (search_of hF2 (by rw [f3 15 (by omega)]; simp (disch := omega) only [fup_s, fup_k, fup_a, fup_r, frow_s, frow_r, frow_sk, frow_rk, fcpy_r, frng_r]) (by rw [f3 16 (by omega)]; simp (disch := omega) only [fup_s, fup_k, fup_a, fup_r, frow_s, frow_r, frow_sk, frow_rk, fcpy_r, frng_r]) (by rw [f3 17 (by omega)]; simp (disch := omega) only [fup_s, fup_k, fup_a, fup_r, frow_s, frow_r, frow_sk, frow_rk, fcpy_r, frng_r]))
      rw [if_pos hk]
      simp (disch := first | assumption | omega | (simp (disch := omega) only [fup_s, fup_k, fup_a, fup_r, frow_s, frow_r, frow_sk, frow_rk, fcpy_r, frng_r]; assumption) | (simp (disch := omega) only [fup_s, fup_k, fup_a, fup_r, frow_s, frow_r, frow_sk, frow_rk, fcpy_r, frng_r]; omega)) only [st_law_22, st_L_shortestLetter, st_X8_shortestLetter, ↓if_pos, ↓if_neg, if_pos, if_neg, ↓reduceIte, true_and, and_true, false_and, and_false, true_or, or_true, false_or, or_false, w32_id, Kv, Kn, fup_s, fup_a, fup_k, fup_fup, Int.reduceAdd, Int.reduceSub, Int.reduceMul, Int.reduceNeg, S_thrown, fup_s, fup_k, fup_a, fup_r, frow_s, frow_r, frow_sk, frow_rk, fcpy_r, frng_r, plcmp_eq, S_within, e1780, e1950]
      exact H _ _ _ _ _ hinv (by omega)
  · have hpk := ((ix_ps (set := s (i + 1)) hT).1 _ (hB2.2.1 k (by omega) (by omega))).2
    have hd := dep_rng (bok_par hB2) k.toNat k (by omega) (by omega) (by omega)
    by_cases hx2 : s (i + 2) < 0 ∨ dep S.2.2 k ≤ s (i + 2)
    · by_cases hx3 : s (i + 2) < 0
      all_goals
        simp (disch := first | assumption | omega | (simp (disch := omega) only [fup_s, fup_k, fup_a, fup_r, frow_s, frow_r, frow_sk, frow_rk, fcpy_r, frng_r]; assumption) | (simp (disch := omega) only [fup_s, fup_k, fup_a, fup_r, frow_s, frow_r, frow_sk, frow_rk, fcpy_r, frng_r]; omega)) only [st_law_22, st_L_shortestLetter, st_X7_shortestLetter, st_X4_letterTogether, st_X8_shortestLetter, st_X8_noSet, ↓if_pos, ↓if_neg, if_pos, if_neg, ↓reduceIte, true_and, and_true, false_and, and_false, true_or, or_true, false_or, or_false, w32_id, Kv, Kn, fup_s, fup_a, fup_k, fup_fup, Int.reduceAdd, Int.reduceSub, Int.reduceMul, Int.reduceNeg, S_thrown, fup_s, fup_k, fup_a, fup_r, frow_s, frow_r, frow_sk, frow_rk, fcpy_r, frng_r, plcmp_eq, S_checkSet, S_within, S_throwsIf, C_lengthTo hW hC2 (bok_par hB2) (fun i z1 z2 => (bok_o hB2 hT0.2 z1 z2).2) hB21.2 (show -1 ≤ k by omega) (show k < S.1 by omega), if_neg hk, e179, hwp]
        refine hFE _ _ _ _ _ (by simp (disch := omega) only [fup_s, fup_k, fup_a, fup_r, frow_s, frow_r, frow_sk, frow_rk, fcpy_r, frng_r, e179]) hW (fun h3 f3 hR3 hB3 => ?_)
        simp (disch := omega) only [fup_s, fup_k, fup_a, fup_r, frow_s, frow_r, frow_sk, frow_rk, fcpy_r, frng_r, e179] at f3 hR3 hB3 ⊢
        rw [hRes] at hR3 hB3 ⊢
        dsimp only at hR3 hB3 ⊢
        have e1780 : h3 178 0 = 0 := by rw [f3 178 (by omega)]; simp (disch := omega) only [fup_s, fup_k, fup_a, fup_r, frow_s, frow_r, frow_sk, frow_rk, fcpy_r, frng_r]
        have e1950 : h3 195 0 = (-1) := by rw [f3 195 (by omega)]; simp (disch := omega) only [fup_s, fup_k, fup_a, fup_r, frow_s, frow_r, frow_sk, frow_rk, fcpy_r, frng_r]
        have hinv : Inv h3 r := inv_srch hI hI.1 rfl (fun a g1 g2 g3 g4 => by rw [f3 a (by omega)]; simp (disch := omega) only [fup_s, fup_k, fup_a, fup_r, frow_s, frow_r, frow_sk, frow_rk, fcpy_r, frng_r]; exact hf2 a (by omega)) (by rw [f3 178 (by omega)]; simp (disch := omega) only [fup_s, fup_k, fup_a, fup_r, frow_s, frow_r, frow_sk, frow_rk, fcpy_r, frng_r]; rw [e178]) (by rw [f3 178 (by omega)]; simp (disch := omega) only [fup_s, fup_k, fup_a, fup_r, frow_s, frow_r, frow_sk, frow_rk, fcpy_r, frng_r]; rw [e178]) (by rw [f3 178 (by omega)]; simp (disch := omega) only [fup_s, fup_k, fup_a, fup_r, frow_s, frow_r, frow_sk, frow_rk, fcpy_r, frng_r]; rw [e178]) (search_of hF2 (by rw [f3 15 (by omega)]; simp (disch := omega) only [fup_s, fup_k, fup_a, fup_r, frow_s, frow_r, frow_sk, frow_rk, fcpy_r, frng_r]) (by rw [f3 16 (by omega)]; simp (disch := omega) only [fup_s, fup_k, fup_a, fup_r, frow_s, frow_r, frow_sk, frow_rk, fcpy_r, frng_r]) (by rw [f3 17 (by omega)]; simp (disch := omega) only [fup_s, fup_k, fup_a, fup_r, frow_s, frow_r, frow_sk, frow_rk, fcpy_r, frng_r]))
        rw [if_neg hk]
        simp (disch := first | assumption | omega | (simp (disch := omega) only [fup_s, fup_k, fup_a, fup_r, frow_s, frow_r, frow_sk, frow_rk, fcpy_r, frng_r]; assumption) | (simp (disch := omega) only [fup_s, fup_k, fup_a, fup_r, frow_s, frow_r, frow_sk, frow_rk, fcpy_r, frng_r]; omega)) only [st_law_22, st_L_shortestLetter, st_X8_shortestLetter, ↓if_pos, ↓if_neg, if_pos, if_neg, ↓reduceIte, true_and, and_true, false_and, and_false, true_or, or_true, false_or, or_false, w32_id, Kv, Kn, fup_s, fup_a, fup_k, fup_fup, Int.reduceAdd, Int.reduceSub, Int.reduceMul, Int.reduceNeg, S_thrown, fup_s, fup_k, fup_a, fup_r, frow_s, frow_r, frow_sk, frow_rk, fcpy_r, frng_r, plcmp_eq, S_within, e1780, e1950, S_depthOf hW (ix_ps hT) hB3 hR3 (show 0 ≤ k by omega) (show k < S.1 by omega)]
        exact H _ _ _ _ _ hinv (by omega)
    · simp (disch := first | assumption | omega | (simp (disch := omega) only [fup_s, fup_k, fup_a, fup_r, frow_s, frow_r, frow_sk, frow_rk, fcpy_r, frng_r]; assumption) | (simp (disch := omega) only [fup_s, fup_k, fup_a, fup_r, frow_s, frow_r, frow_sk, frow_rk, fcpy_r, frng_r]; omega)) only [st_law_22, st_L_shortestLetter, st_X7_shortestLetter, st_X4_letterTogether, ↓if_pos, ↓if_neg, if_pos, if_neg, ↓reduceIte, true_and, and_true, false_and, and_false, true_or, or_true, false_or, or_false, w32_id, Kv, Kn, fup_s, fup_a, fup_k, fup_fup, Int.reduceAdd, Int.reduceSub, Int.reduceMul, Int.reduceNeg, S_thrown, fup_s, fup_k, fup_a, fup_r, frow_s, frow_r, frow_sk, frow_rk, fcpy_r, frng_r, plcmp_eq, S_checkSet, S_within, S_throwsIf, C_lengthTo hW hC2 (bok_par hB2) (fun i z1 z2 => (bok_o hB2 hT0.2 z1 z2).2) hB21.2 (show -1 ≤ k by omega) (show k < S.1 by omega), if_neg hk]
      refine L_lett hW hC2 (bok_par hB2) (fun i z1 z2 => (bok_o hB2 hT0.2 z1 z2).2) hB21.2 (by omega) (by omega) (by omega) (by omega) ?_
      simp (disch := first | assumption | omega | (simp (disch := omega) only [fup_s, fup_k, fup_a, fup_r, frow_s, frow_r, frow_sk, frow_rk, fcpy_r, frng_r]; assumption) | (simp (disch := omega) only [fup_s, fup_k, fup_a, fup_r, frow_s, frow_r, frow_sk, frow_rk, fcpy_r, frng_r]; omega)) only [st_law_22, st_L_shortestLetter, st_X7_shortestLetter, st_X8_shortestLetter, st_X8_noSet, ↓if_pos, ↓if_neg, if_pos, if_neg, ↓reduceIte, true_and, and_true, false_and, and_false, true_or, or_true, false_or, or_false, w32_id, Kv, Kn, fup_s, fup_a, fup_k, fup_fup, Int.reduceAdd, Int.reduceSub, Int.reduceMul, Int.reduceNeg, S_thrown, fup_s, fup_k, fup_a, fup_r, frow_s, frow_r, frow_sk, frow_rk, fcpy_r, frng_r, plcmp_eq, S_checkSet, S_within, S_throwsIf, e179, hwp]
      refine hFE _ _ _ _ _ (by simp (disch := omega) only [fup_s, fup_k, fup_a, fup_r, frow_s, frow_r, frow_sk, frow_rk, fcpy_r, frng_r, e179]) hW (fun h3 f3 hR3 hB3 => ?_)
      simp (disch := omega) only [fup_s, fup_k, fup_a, fup_r, frow_s, frow_r, frow_sk, frow_rk, fcpy_r, frng_r, e179] at f3 hR3 hB3 ⊢
      rw [hRes] at hR3 hB3 ⊢
      dsimp only at hR3 hB3 ⊢
      have e1780 : h3 178 0 = 0 := by rw [f3 178 (by omega)]; simp (disch := omega) only [fup_s, fup_k, fup_a, fup_r, frow_s, frow_r, frow_sk, frow_rk, fcpy_r, frng_r]
      have e1950 : h3 195 0 = (S.2.2 (anc S.2.2 (dep S.2.2 k - 1 - s (i + 2)).toNat k) % 4) := by rw [f3 195 (by omega)]; simp (disch := omega) only [fup_s, fup_k, fup_a, fup_r, frow_s, frow_r, frow_sk, frow_rk, fcpy_r, frng_r]
      have hinv : Inv h3 r := inv_srch hI hI.1 rfl (fun a g1 g2 g3 g4 => by rw [f3 a (by omega)]; simp (disch := omega) only [fup_s, fup_k, fup_a, fup_r, frow_s, frow_r, frow_sk, frow_rk, fcpy_r, frng_r]; exact hf2 a (by omega)) (by rw [f3 178 (by omega)]; simp (disch := omega) only [fup_s, fup_k, fup_a, fup_r, frow_s, frow_r, frow_sk, frow_rk, fcpy_r, frng_r]; rw [e178]) (by rw [f3 178 (by omega)]; simp (disch := omega) only [fup_s, fup_k, fup_a, fup_r, frow_s, frow_r, frow_sk, frow_rk, fcpy_r, frng_r]; rw [e178]) (by rw [f3 178 (by omega)]; simp (disch := omega) only [fup_s, fup_k, fup_a, fup_r, frow_s, frow_r, frow_sk, frow_rk, fcpy_r, frng_r]; rw [e178]) (search_of hF2 (by rw [f3 15 (by omega)]; simp (disch := omega) only [fup_s, fup_k, fup_a, fup_r, frow_s, frow_r, frow_sk, frow_rk, fcpy_r, frng_r]) (by rw [f3 16 (by omega)]; simp (disch := omega) only [fup_s, fup_k, fup_a, fup_r, frow_s, frow_r, frow_sk, frow_rk, fcpy_r, frng_r]) (by rw [f3 17 (by omega)]; simp (disch := omega) only [fup_s, fup_k, fup_a, fup_r, frow_s, frow_r, frow_sk, frow_rk, fcpy_r, frng_r]))
      rw [if_neg hk]
      simp (disch := first | assumption | omega | (simp (disch := omega) only [fup_s, fup_k, fup_a, fup_r, frow_s, frow_r, frow_sk, frow_rk, fcpy_r, frng_r]; assumption) | (simp (disch := omega) only [fup_s, fup_k, fup_a, fup_r, frow_s, frow_r, frow_sk, frow_rk, fcpy_r, frng_r]; omega)) only [st_law_22, st_L_shortestLetter, st_X8_shortestLetter, ↓if_pos, ↓if_neg, if_pos, if_neg, ↓reduceIte, true_and, and_true, false_and, and_false, true_or, or_true, false_or, or_false, w32_id, Kv, Kn, fup_s, fup_a, fup_k, fup_fup, Int.reduceAdd, Int.reduceSub, Int.reduceMul, Int.reduceNeg, S_thrown, fup_s, fup_k, fup_a, fup_r, frow_s, frow_r, frow_sk, frow_rk, fcpy_r, frng_r, plcmp_eq, S_within, e1780, S_depthOf hW (ix_ps hT) hB3 hR3 (show 0 ≤ k by omega) (show k < S.1 by omega)]
      refine M_lett hW (ix_ps hT) hB3 hR3 (by omega) (by omega) (by omega) (by omega) ?_
      simp (disch := first | assumption | omega | (simp (disch := omega) only [fup_s, fup_k, fup_a, fup_r, frow_s, frow_r, frow_sk, frow_rk, fcpy_r, frng_r]; assumption) | (simp (disch := omega) only [fup_s, fup_k, fup_a, fup_r, frow_s, frow_r, frow_sk, frow_rk, fcpy_r, frng_r]; omega)) only [st_law_22, st_L_shortestLetter, st_X8_shortestLetter, ↓if_pos, ↓if_neg, if_pos, if_neg, ↓reduceIte, true_and, and_true, false_and, and_false, true_or, or_true, false_or, or_false, w32_id, Kv, Kn, fup_s, fup_a, fup_k, fup_fup, Int.reduceAdd, Int.reduceSub, Int.reduceMul, Int.reduceNeg, S_thrown, fup_s, fup_k, fup_a, fup_r, frow_s, frow_r, frow_sk, frow_rk, fcpy_r, frng_r, plcmp_eq, e1780, e1950]
      exact H _ _ _ _ _ hinv (by omega)
