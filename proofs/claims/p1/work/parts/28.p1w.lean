theorem S_bitCount0 {nx : Nat} {h r : PF} {s : Int → Int} {Q : PO → PY → Nat → PC → Prop} : Wp 228 0 [some (pI 0)] [] LY nx (h, r, s) Q ↔ Q (Sum.inl (some (pI 0))) LY nx (h, r, s) := by
  simp (disch := first | assumption | omega) only [st_J6_bitCount_0f7a4, ↓if_pos, ↓if_neg, if_pos, if_neg, ↓reduceIte, true_and, and_true, false_and, and_false, true_or, or_true, false_or, or_false, w32_id, Kv, Kn, fup_s, fup_a, fup_k, fup_fup, Int.reduceAdd, Int.reduceSub, Int.reduceMul, Int.reduceNeg]
  exact iff_of_eq (congrArg (fun z => Q (Sum.inl (some (pI z))) LY nx (h, r, s)) (by decide +kernel))
theorem E_count {p n : Int} {nx : Nat} {h r : PF} {s : Int → Int} {Q : PO → PY → Nat → PC → Prop} (hW : WFr r) (hp0 : 200 < p ∨ 0 < p) (hp1 : 100 < p) (hpk : kd LY p = (0, 2)) (hpm : h p 1 = 0) (hpl : h p 0 = 1) (he : h 15 3 = 0) (h16 : h 16 0 = 0) (hw1 : r 15 4 = 19) (hw2 : r 15 5 = 20) (hn : 0 ≤ n) (hn2 : n ≤ 20) (K : ∀ h' r', h' 178 = h 178 → h' 179 = h 179 → h' 180 = h 180 → WFr r' → Q (Sum.inl (some (pJ 1))) LY nx (h', r', s)) : Wp 42 0 [some (pR 15), some (pR p), some (pI 0), some (pI n), none, none] [] LY nx (h, r, s) Q := by
  have hk4 : kd LY (r 15 4) = (2, 1296) := by rw [hw1]; decide +kernel
  simp (disch := first | assumption | omega) only [st_X4_count_0, st_X4_count_1, st_X4_begin, st_X4_meet, st_X4_explore, st_X4_step_0, st_X4_step_1, st_X4_isFound, st_X4_waysFrom, st_X4_lengthTo, ↓if_pos, ↓if_neg, if_pos, if_neg, ↓reduceIte, true_and, and_true, false_and, and_false, true_or, or_true, false_or, or_false, w32_id, Kv, Kn, fup_s, fup_a, fup_k, fup_fup, Int.reduceAdd, Int.reduceSub, Int.reduceMul, Int.reduceNeg, sh_X4_begin_2, sh_X4_explore_2, sh_X4_explore_40, sh_X4_step_12, sh_X4_isFound_8, sh_X4_count_16, S_bitCount0]
  refine loopW (Inv := fun i L H R => (∃ x, L = [some (pR 15), some (pR p), some (pI 0), some (pI n), some (pI i), x]) ∧ WFr R ∧ (R 15 4 = 19 ∧ R 15 5 = 20 ∨ R 15 4 = 20 ∧ R 15 5 = 19) ∧ H (R 15 4) 0 = 1 ∧ H p 1 = 0 ∧ H p 0 = 1 ∧ H 15 3 = 1 ∧ H 15 6 = 0 ∧ H 15 7 = 0 ∧ H 16 0 = 1 ∧ H 17 0 = 0 ∧ H 178 = h 178 ∧ H 179 = h 179 ∧ H 180 = h 180) (a := 1) (n := n + 1) (by omega) ?_ ?_ _ _ _ ?_
  · rintro i L H R hi hi2 ⟨⟨x, rfl⟩, hW', hr, hA, hB, hC, hE, hF, hG, hI, hJ, hM, hN, hO⟩ hK
    have hk4 : kd LY (R 15 4) = (2, 1296) := by rcases hr with e | e <;> rw [e.1] <;> decide +kernel
    have hk5 : kd LY (R 15 5) = (2, 1296) := by rcases hr with e | e <;> rw [e.2] <;> decide +kernel
    rw [sh_X4_count_61]
    simp (disch := first | assumption | omega) only [st_X4_count_0, st_X4_count_1, st_X4_begin, st_X4_meet, st_X4_explore, st_X4_step_0, st_X4_step_1, st_X4_isFound, st_X4_waysFrom, st_X4_lengthTo, ↓if_pos, ↓if_neg, if_pos, if_neg, ↓reduceIte, true_and, and_true, false_and, and_false, true_or, or_true, false_or, or_false, w32_id, Kv, Kn, fup_s, fup_a, fup_k, fup_fup, Int.reduceAdd, Int.reduceSub, Int.reduceMul, Int.reduceNeg, sh_X4_step_12, sh_X4_waysFrom_5, sh_X4_count_70, hA, hI, w64_id]
    refine hK _ _ _ ⟨⟨_, rfl⟩, wfr_up (Or.inl rfl) (wfr_up (Or.inr rfl) hW'), ?_, ?_, ?_, ?_, ?_, ?_, ?_, ?_, ?_, ?_, ?_, ?_⟩
    · simp (disch := omega) only [fup_s, fup_k]; omega
    all_goals simp (disch := omega) only [fup_s, fup_k, fup_r]
    all_goals assumption
  · rintro L H R ⟨⟨x, rfl⟩, hW', hr, hA, hB, hC, hE, hF, hG, hI, hJ, hM, hN, hO⟩
    have hk4 : kd LY (R 15 4) = (2, 1296) := by rcases hr with e | e <;> rw [e.1] <;> decide +kernel
    rw [sh_X4_count_61]
    simp (disch := first | assumption | omega) only [st_X4_count_0, st_X4_count_1, ↓if_pos, ↓if_neg, if_pos, if_neg, ↓reduceIte, true_and, and_true, false_and, and_false, true_or, or_true, false_or, or_false, w32_id, Kv, Kn, fup_s, fup_a, fup_k, fup_fup, Int.reduceAdd, Int.reduceSub, Int.reduceMul, Int.reduceNeg, hA]
    exact K _ _ hM hN hO hW'
  · refine ⟨⟨_, rfl⟩, hW, Or.inl ⟨hw1, hw2⟩, ?_⟩
    simp (disch := omega) only [fup_s, fup_k, fup_r]
    repeat' constructor
    all_goals assumption
theorem E_lengthTogether {p : Int} {nx : Nat} {h r : PF} {s : Int → Int} {Q : PO → PY → Nat → PC → Prop} (hW : WFr r) (hp0 : 200 < p ∨ 0 < p) (hp1 : 100 < p) (hpk : kd LY p = (0, 2)) (hpm : h p 1 = 0) (hpl : h p 0 = 1) (he : h 15 3 = 0) (h16 : h 16 0 = 0) (hw1 : r 15 4 = 19) (hw2 : r 15 5 = 20) (K : ∀ h' r', h' 178 = h 178 → h' 179 = h 179 → h' 180 = h 180 → r' = r → Q (Sum.inl (some (pI 0))) LY nx (h', r', s)) : Wp 44 0 [some (pR 15), some (pR p), some (pI 0)] [] LY nx (h, r, s) Q := by
  simp (disch := first | assumption | omega) only [st_X4_lengthTogether, st_X4_begin, st_X4_meet, st_X4_explore, st_X4_step_0, st_X4_step_1, st_X4_isFound, st_X4_waysFrom, st_X4_lengthTo, ↓if_pos, ↓if_neg, if_pos, if_neg, ↓reduceIte, true_and, and_true, false_and, and_false, true_or, or_true, false_or, or_false, w32_id, Kv, Kn, fup_s, fup_a, fup_k, fup_fup, Int.reduceAdd, Int.reduceSub, Int.reduceMul, Int.reduceNeg, sh_X4_begin_2, sh_X4_explore_2, sh_X4_explore_40, sh_X4_step_12, sh_X4_isFound_8, sh_X4_lengthTo_11, S_bitCount0]
  refine K _ _ ?_ ?_ ?_ rfl
  all_goals simp (disch := omega) only [fup_r]
theorem E_letterTogether {p k : Int} {nx : Nat} {h r : PF} {s : Int → Int} {Q : PO → PY → Nat → PC → Prop} (hW : WFr r) (hp0 : 200 < p ∨ 0 < p) (hp1 : 100 < p) (hpk : kd LY p = (0, 2)) (hpm : h p 1 = 0) (hpl : h p 0 = 1) (he : h 15 3 = 0) (h16 : h 16 0 = 0) (hw1 : r 15 4 = 19) (hw2 : r 15 5 = 20) (K : ∀ h' r', h' 178 = h 178 → h' 179 = h 179 → h' 180 = h 180 → r' = r → Q (Sum.inl (some (pI (-1)))) LY nx (h', r', s)) : Wp 45 0 [some (pR 15), some (pR p), some (pI 0), some (pI k), none, none, none] [] LY nx (h, r, s) Q := by
  by_cases hk : k < 0
  all_goals
    simp (disch := first | assumption | omega) only [st_X4_letterTogether, st_X4_begin, st_X4_meet, st_X4_explore, st_X4_step_0, st_X4_step_1, st_X4_isFound, st_X4_waysFrom, st_X4_lengthTo, ↓if_pos, ↓if_neg, if_pos, if_neg, ↓reduceIte, true_and, and_true, false_and, and_false, true_or, or_true, false_or, or_false, w32_id, Kv, Kn, fup_s, fup_a, fup_k, fup_fup, Int.reduceAdd, Int.reduceSub, Int.reduceMul, Int.reduceNeg, sh_X4_begin_2, sh_X4_explore_2, sh_X4_explore_40, sh_X4_step_12, sh_X4_isFound_8, sh_X4_lengthTo_11, S_bitCount0]
    refine K _ _ ?_ ?_ ?_ rfl
    all_goals simp (disch := omega) only [fup_r]
theorem F_goesOn {nx : Nat} {h r : PF} {s : Int → Int} {Q : PO → PY → Nat → PC → Prop} (hW : WFr r) (t0 : h 179 0 = 1) (t1 : h 179 1 = 0) (hw : ∀ k, 0 ≤ k → k < 1296 → h 186 k = if k = 0 then 1 else 0) (K : ∀ h', (∀ k, 0 ≤ k → k < 1296 → h' 186 k = if k = 0 then 1 else 0) → h' 178 = h 178 → h' 179 = h 179 → h' 195 = h 195 → Q (Sum.inl none) LY nx (h', r, s)) : Wp 204 0 [some (pR 178), some (pI 0), none, none, none] [] LY nx (h, r, s) Q := by
  simp (disch := first | assumption | omega) only [st_X8_goesOn_0, st_X8_goesOn_1, ↓if_pos, ↓if_neg, if_pos, if_neg, ↓reduceIte, true_and, and_true, false_and, and_false, true_or, or_true, false_or, or_false, w32_id, Kv, Kn, fup_s, fup_a, fup_k, fup_fup, Int.reduceAdd, Int.reduceSub, Int.reduceMul, Int.reduceNeg]
  rw [loopR (mi := 204) (hd := 2) (Lf := fun i => [some (pR 178), some (pI 0), some (pI i), none, none]) (Hf := fun i => frng h 187 0 i (fun _ => 0)) (a := 0) (n := 1296) (by omega) (by rfl) (frng_nil (by omega)).symm ?_]
  · rw [sh_X8_goesOn_2]
    simp (disch := first | assumption | omega) only [st_X8_goesOn_0, st_X8_goesOn_1, ↓if_pos, ↓if_neg, if_pos, if_neg, ↓reduceIte, true_and, and_true, false_and, and_false, true_or, or_true, false_or, or_false, w32_id, Kv, Kn, fup_s, fup_a, fup_k, fup_fup, Int.reduceAdd, Int.reduceSub, Int.reduceMul, Int.reduceNeg]
    refine loopW (Inv := fun t L H R => (∃ x y, L = [some (pR 178), some (pI 0), some (pI t), x, y]) ∧ R = r ∧ H = (if t = 0 then frng h 187 0 1296 (fun _ => 0) else fup (frng h 187 0 1296 (fun _ => 0)) 187 0 1)) (a := 0) (n := 1296) (by omega) ?_ ?_ _ _ _ ⟨⟨_, _, rfl⟩, rfl, rfl⟩
    · rintro t L H R hi hi2 ⟨⟨x, y, rfl⟩, rfl, rfl⟩ hK
      have hwt := hw t hi hi2
      by_cases hc : t = 0
      · subst hc
        rw [if_pos rfl] at hwt ⊢
        rw [sh_X8_goesOn_24]
        simp (disch := first | assumption | omega) only [st_X8_goesOn_0, st_X8_goesOn_1, st_X8_together, ↓if_pos, ↓if_neg, if_pos, if_neg, ↓reduceIte, true_and, and_true, false_and, and_false, true_or, or_true, false_or, or_false, w32_id, Kv, Kn, fup_s, fup_a, fup_k, fup_fup, Int.reduceAdd, Int.reduceSub, Int.reduceMul, Int.reduceNeg, frng_a, frng_in, sh_X8_goesOn_33, sh_X8_together_9, w64_id, hwt, t0, t1, plcmp_gt, plcmp_eq, plcmp_lt]
        exact hK _ _ _ ⟨⟨_, _, rfl⟩, rfl, by rw [if_neg (by omega)]⟩
      · rw [if_neg hc] at hwt ⊢
        rw [sh_X8_goesOn_24]
        simp (disch := first | assumption | omega) only [st_X8_goesOn_0, st_X8_goesOn_1, st_X8_together, ↓if_pos, ↓if_neg, if_pos, if_neg, ↓reduceIte, true_and, and_true, false_and, and_false, true_or, or_true, false_or, or_false, w32_id, Kv, Kn, fup_s, fup_a, fup_k, fup_fup, Int.reduceAdd, Int.reduceSub, Int.reduceMul, Int.reduceNeg, frng_a, frng_in, sh_X8_goesOn_33, hwt, t0, t1, plcmp_gt, plcmp_eq, plcmp_lt]
        exact hK _ _ _ ⟨⟨_, _, rfl⟩, rfl, by rw [if_neg (by omega)]⟩
    · rintro L H R ⟨⟨x, y, rfl⟩, rfl, rfl⟩
      rw [if_neg (by omega), sh_X8_goesOn_24]
      simp (disch := first | assumption | omega) only [st_X8_goesOn_0, st_X8_goesOn_1, ↓if_pos, ↓if_neg, if_pos, if_neg, ↓reduceIte, true_and, and_true, false_and, and_false, true_or, or_true, false_or, or_false, w32_id, Kv, Kn, fup_s, fup_a, fup_k, fup_fup, Int.reduceAdd, Int.reduceSub, Int.reduceMul, Int.reduceNeg]
      refine loopW (Inv := fun t L H R' => (∃ x y, L = [some (pR 178), some (pI 0), some (pI t), x, y]) ∧ R' = R ∧ H = fcpy (fup (frng h 187 0 1296 (fun _ => 0)) 187 0 1) 187 0 186 0 t) (a := 0) (n := 1296) (by omega) ?_ ?_ _ _ _ ⟨⟨_, _, rfl⟩, rfl, (fcpy_nil (by omega)).symm⟩
      · rintro t L H R' hi hi2 ⟨⟨x, y, rfl⟩, rfl, rfl⟩ hK
        rw [sh_X8_goesOn_99]
        simp (disch := first | assumption | omega) only [st_X8_goesOn_0, st_X8_goesOn_1, ↓if_pos, ↓if_neg, if_pos, if_neg, ↓reduceIte, true_and, and_true, false_and, and_false, true_or, or_true, false_or, or_false, w32_id, Kv, Kn, fup_s, fup_a, fup_k, fup_fup, Int.reduceAdd, Int.reduceSub, Int.reduceMul, Int.reduceNeg]
        refine hK _ _ _ ⟨⟨_, _, rfl⟩, rfl, ?_⟩
        rw [← fcpy_end (by omega) (Or.inl (by omega))]
        simp only [Int.zero_add]
      · rintro L H R' ⟨⟨x, y, rfl⟩, rfl, rfl⟩
        rw [sh_X8_goesOn_99]
        simp (disch := first | assumption | omega) only [st_X8_goesOn_0, st_X8_goesOn_1, ↓if_pos, ↓if_neg, if_pos, if_neg, ↓reduceIte, true_and, and_true, false_and, and_false, true_or, or_true, false_or, or_false, w32_id, Kv, Kn, fup_s, fup_a, fup_k, fup_fup, Int.reduceAdd, Int.reduceSub, Int.reduceMul, Int.reduceNeg]
        refine K _ ?_ ?_ ?_ ?_
        · intro k hk hk2
          rw [fcpy_in hk (by omega)]
          by_cases hc : k = 0
          · subst hc; rw [if_pos rfl]; simp only [Int.sub_self, Int.add_zero, fup_s]
          · rw [if_neg hc, fup_k (by omega), frng_in (by omega) (by omega)]
        · rw [fcpy_r (by omega), fup_r (by omega), frng_r (by omega)]
        · rw [fcpy_r (by omega), fup_r (by omega), frng_r (by omega)]
        · rw [fcpy_r (by omega), fup_r (by omega), frng_r (by omega)]
  · intro i hi hi2
    refine Iff.trans sh_X8_goesOn_2 ?_
    simp (disch := first | assumption | omega) only [st_X8_goesOn_0, st_X8_goesOn_1, ↓if_pos, ↓if_neg, if_pos, if_neg, ↓reduceIte, true_and, and_true, false_and, and_false, true_or, or_true, false_or, or_false, w32_id, Kv, Kn, fup_s, fup_a, fup_k, fup_fup, Int.reduceAdd, Int.reduceSub, Int.reduceMul, Int.reduceNeg]
    rw [frng_end (by omega) rfl]
theorem F_words {n : Int} {nx : Nat} {h r : PF} {s : Int → Int} {Q : PO → PY → Nat → PC → Prop} (hW : WFr r) (t0 : h 179 0 = 1) (t1 : h 179 1 = 0) (hn : 0 ≤ n) (hn2 : n ≤ 20) (K : ∀ h', h' 178 0 = 0 → h' 195 = h 195 → Q (Sum.inl (some (pJ 1))) LY nx (h', r, s)) : Wp 203 0 [some (pR 178), some (pI 0), some (pI n), none, none, none] [] LY nx (h, r, s) Q := by
  simp (disch := first | assumption | omega) only [st_X8_words_0, st_X8_words_1, st_X8_noSet, ↓if_pos, ↓if_neg, if_pos, if_neg, ↓reduceIte, true_and, and_true, false_and, and_false, true_or, or_true, false_or, or_false, w32_id, Kv, Kn, fup_s, fup_a, fup_k, fup_fup, Int.reduceAdd, Int.reduceSub, Int.reduceMul, Int.reduceNeg, S_within, S_throwsIf, pshl10, t1]
  rw [loopR (mi := 203) (hd := 35) (Lf := fun i => [some (pR 178), some (pI 0), some (pI n), some (pI i), none, none]) (Hf := fun i => frng (fup h 178 0 0) 186 0 i (fun k => if k = 0 then 1 else 0)) (a := 0) (n := 1296) (by omega) (by rfl) (frng_nil (by omega)).symm ?_]
  · rw [sh_X8_words_35]
    simp (disch := first | assumption | omega) only [st_X8_words_0, st_X8_words_1, ↓if_pos, ↓if_neg, if_pos, if_neg, ↓reduceIte, true_and, and_true, false_and, and_false, true_or, or_true, false_or, or_false, w32_id, Kv, Kn, fup_s, fup_a, fup_k, fup_fup, Int.reduceAdd, Int.reduceSub, Int.reduceMul, Int.reduceNeg]
    refine loopW (Inv := fun i L H R => L = [some (pR 178), some (pI 0), some (pI n), some (pI i), none, none] ∧ R = r ∧ H 179 = h 179 ∧ H 178 0 = 0 ∧ (∀ k, 0 ≤ k → k < 1296 → H 186 k = if k = 0 then 1 else 0) ∧ H 195 = h 195) (a := 0) (n := n) (by omega) ?_ ?_ _ _ _ ⟨rfl, rfl, ?_, ?_, ?_, ?_⟩
    · rintro i L H R hi hi2 ⟨rfl, rfl, hA, hB, hC, hD⟩ hK
      rw [sh_X8_words_65]
      simp (disch := first | assumption | omega) only [st_X8_words_0, st_X8_words_1, ↓if_pos, ↓if_neg, if_pos, if_neg, ↓reduceIte, true_and, and_true, false_and, and_false, true_or, or_true, false_or, or_false, w32_id, Kv, Kn, fup_s, fup_a, fup_k, fup_fup, Int.reduceAdd, Int.reduceSub, Int.reduceMul, Int.reduceNeg]
      refine F_goesOn hW (by rw [hA]; exact t0) (by rw [hA]; exact t1) hC ?_
      intro h' h1 h2 h3 h4
      simp (disch := first | assumption | omega) only [st_X8_words_0, st_X8_words_1, ↓if_pos, ↓if_neg, if_pos, if_neg, ↓reduceIte, true_and, and_true, false_and, and_false, true_or, or_true, false_or, or_false, w32_id, Kv, Kn, fup_s, fup_a, fup_k, fup_fup, Int.reduceAdd, Int.reduceSub, Int.reduceMul, Int.reduceNeg]
      exact hK _ _ _ ⟨rfl, rfl, by rw [h3, hA], by rw [h2, hB], h1, by rw [h4, hD]⟩
    · rintro L H R ⟨rfl, rfl, hA, hB, hC, hD⟩
      rw [sh_X8_words_65]
      simp (disch := first | assumption | omega) only [st_X8_words_0, st_X8_words_1, ↓if_pos, ↓if_neg, if_pos, if_neg, ↓reduceIte, true_and, and_true, false_and, and_false, true_or, or_true, false_or, or_false, w32_id, Kv, Kn, fup_s, fup_a, fup_k, fup_fup, Int.reduceAdd, Int.reduceSub, Int.reduceMul, Int.reduceNeg]
      have hA1 : H 179 1 = 0 := by rw [hA]; exact t1
      refine loopW (Inv := fun i L H' R' => L = [some (pR 178), some (pI 0), some (pI n), some (pJ (if i = 0 then 0 else 1)), none, some (pI i)] ∧ R' = R ∧ H' = H) (a := 0) (n := 1296) (by omega) ?_ ?_ _ _ _ ⟨rfl, rfl, rfl⟩
      · rintro i L H' R' hi hi2 ⟨rfl, rfl, rfl⟩ hK
        have hCi := hC i hi hi2
        rw [sh_X8_words_86]
        by_cases hc : i = 0
        · subst hc
          rw [if_pos rfl] at hCi
          simp (disch := first | assumption | omega) only [st_X8_words_0, st_X8_words_1, st_X8_areEnds, ↓if_pos, ↓if_neg, if_pos, if_neg, ↓reduceIte, true_and, and_true, false_and, and_false, true_or, or_true, false_or, or_false, w32_id, Kv, Kn, fup_s, fup_a, fup_k, fup_fup, Int.reduceAdd, Int.reduceSub, Int.reduceMul, Int.reduceNeg, sh_X8_areEnds_5, hCi, w64_id, plcmp_gt, plcmp_eq, plcmp_lt]
          exact hK _ _ _ ⟨by first | (rw [if_neg (by omega)]; done) | (rw [if_neg (by omega)]; rfl), rfl, rfl⟩
        · rw [if_neg hc] at hCi
          simp (disch := first | assumption | omega) only [st_X8_words_0, st_X8_words_1, st_X8_areEnds, ↓if_pos, ↓if_neg, if_pos, if_neg, ↓reduceIte, true_and, and_true, false_and, and_false, true_or, or_true, false_or, or_false, w32_id, Kv, Kn, fup_s, fup_a, fup_k, fup_fup, Int.reduceAdd, Int.reduceSub, Int.reduceMul, Int.reduceNeg, sh_X8_areEnds_5, hCi, w64_id, plcmp_gt, plcmp_eq, plcmp_lt]
          exact hK _ _ _ ⟨by first | (rw [if_neg (by omega)]; done) | (rw [if_neg (by omega)]; rfl), rfl, rfl⟩
      · rintro L H' R' ⟨rfl, rfl, rfl⟩
        rw [sh_X8_words_86]
        simp (disch := first | assumption | omega) only [st_X8_words_0, st_X8_words_1, ↓if_pos, ↓if_neg, if_pos, if_neg, ↓reduceIte, true_and, and_true, false_and, and_false, true_or, or_true, false_or, or_false, w32_id, Kv, Kn, fup_s, fup_a, fup_k, fup_fup, Int.reduceAdd, Int.reduceSub, Int.reduceMul, Int.reduceNeg]
        exact K _ hB hD
    · rw [frng_r (by omega), fup_r (by omega)]
    · rw [frng_r (by omega), fup_s]
    · intro k hk hk2
      rw [frng_in hk hk2]
    · rw [frng_r (by omega), fup_r (by omega)]
  · intro i hi hi2
    refine Iff.trans sh_X8_words_35 ?_
    by_cases hc : i = 0
    · subst hc
      simp (disch := first | assumption | omega) only [st_X8_words_0, st_X8_words_1, ↓if_pos, ↓if_neg, if_pos, if_neg, ↓reduceIte, true_and, and_true, false_and, and_false, true_or, or_true, false_or, or_false, w32_id, Kv, Kn, fup_s, fup_a, fup_k, fup_fup, Int.reduceAdd, Int.reduceSub, Int.reduceMul, Int.reduceNeg]
      rw [frng_end (by omega) (by rw [if_pos rfl])]
      rfl
    · skip
      simp (disch := first | assumption | omega) only [st_X8_words_0, st_X8_words_1, ↓if_pos, ↓if_neg, if_pos, if_neg, ↓reduceIte, true_and, and_true, false_and, and_false, true_or, or_true, false_or, or_false, w32_id, Kv, Kn, fup_s, fup_a, fup_k, fup_fup, Int.reduceAdd, Int.reduceSub, Int.reduceMul, Int.reduceNeg]
      rw [frng_end (by omega) (by rw [if_neg hc])]
