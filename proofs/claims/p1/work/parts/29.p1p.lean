def col0 (h : PF) : PF := fup (fup (fup (frng h 13 0 4 (fun _ => 0)) 9 5 (-1)) 9 6 0) 9 7 0
theorem E_collect {p b : Int} {nx : Nat} {h r : PF} {s : Int → Int} {Q : PO → PY → Nat → PC → Prop} (hW : WFr r) (hp1 : 200 < p ∨ 100 < p) (hp0 : 160 < p) (hpk : kd LY p = (0, 2)) (hpm : h p 1 = 0) (hpl : h p 0 = 1) : Wp 4 0 [some (pR 9), some (pR p), some (pR b), none] [] LY nx (h, r, s) Q ↔ Q (Sum.inl none) LY nx (col0 h, r, s) := by
  simp (disch := first | assumption | omega) only [st_X0_collect, st_X0_findBest, st_X0_divideCost_0, st_X0_divideCost_1, st_X0_divideRest, ↓if_pos, ↓if_neg, if_pos, if_neg, ↓reduceIte, true_and, and_true, false_and, and_false, true_or, or_true, false_or, or_false, w32_id, Kv, Kn, fup_s, fup_a, fup_k, fup_fup, Int.reduceAdd, Int.reduceSub, Int.reduceMul, Int.reduceNeg, sh_X0_collect_10, sh_X0_findBest_14, sh_X0_divideCost_32, sh_X0_divideRest_10, sh_X0_divideRest_26, frng_a, frng_in, frng_r, S_fill (a := 13) (n := 4) (v := 0) (by decide) (by decide +kernel) (by decide)]
  rfl
theorem E_playRounds {p n : Int} {nx : Nat} {h r : PF} {s : Int → Int} {Q : PO → PY → Nat → PC → Prop} (hW : WFr r) (hp1 : 200 < p ∨ 100 < p) (hp0 : 160 < p) (hpk : kd LY p = (0, 2)) (hpm : h p 1 = 0) (hpl : h p 0 = 1) (s8 : h 144 8 = 0) (s14 : 0 ≤ h 144 14) (s14b : h 144 14 < 20) (hn : 0 ≤ n) (hn2 : n ≤ 20) (K : ∀ h', h' 178 = h 178 → h' 179 = h 179 → h' 180 = h 180 → Q (Sum.inl (some (pI 0))) LY nx (h', r, s)) : Wp 9 0 [some (pR 9), some (pR p), some (pR 144), some (pI n), none, none] [] LY nx (h, r, s) Q := by
  have hS := stok_144 hW
  have k152 : kd LY 152 = (1, 6) := by decide +kernel
  obtain ⟨⟨hs0, hsk⟩, ⟨hsr0, hsp0, hsd0⟩, ⟨hsr1, hsp1, hsd1⟩, ⟨hsr2, hsp2, hsd2⟩, ⟨hsr3, hsp3, hsd3⟩, ⟨hsr4, hsp4, hsd4⟩, ⟨hsr5, hsp5, hsd5⟩, ⟨hsr6, hsp6, hsd6⟩, ⟨hsr7, hsp7, hsd7⟩, ⟨hsr12, hsp12, hsd12⟩⟩ := stok_144 hW
  simp (disch := first | assumption | omega) only [st_X0_playRounds, ↓if_pos, ↓if_neg, if_pos, if_neg, ↓reduceIte, true_and, and_true, false_and, and_false, true_or, or_true, false_or, or_false, w32_id, Kv, Kn, fup_s, fup_a, fup_k, fup_fup, Int.reduceAdd, Int.reduceSub, Int.reduceMul, Int.reduceNeg]
  rw [s8]
  refine loopW (Inv := fun i L H R => L = [some (pR 9), some (pR p), some (pR 144), some (pI n), some (pI 0), some (pI i)] ∧ R = r ∧ H p 1 = 0 ∧ H p 0 = 1 ∧ H 144 8 = 0 ∧ 0 ≤ H 144 14 ∧ H 144 14 < 20 ∧ H 178 = h 178 ∧ H 179 = h 179 ∧ H 180 = h 180) (a := 0) (n := n) (by omega) ?_ ?_ _ _ _ ⟨rfl, rfl, hpm, hpl, s8, s14, s14b, rfl, rfl, rfl⟩
  · rintro i L H R hi hi2 ⟨rfl, rfl, hA, hB, hC, hD, hE, hF, hG, hH⟩ hK
    rw [sh_X0_playRounds_9]
    simp (disch := first | assumption | omega) only [st_X0_playRounds, st_X5_isFull, ↓if_pos, ↓if_neg, if_pos, if_neg, ↓reduceIte, true_and, and_true, false_and, and_false, true_or, or_true, false_or, or_false, w32_id, Kv, Kn, fup_s, fup_a, fup_k, fup_fup, Int.reduceAdd, Int.reduceSub, Int.reduceMul, Int.reduceNeg, E_collect]
    have c8 : col0 H 144 8 = 0 := by unfold col0; simp (disch := omega) only [fup_a, frng_a]; exact hC
    have c14 : col0 H 144 14 = H 144 14 := by unfold col0; simp (disch := omega) only [fup_a, frng_a]
    have c9 : col0 H 9 5 = -1 := by unfold col0; simp (disch := omega) only [fup_k, fup_s]
    have c1 : col0 H p 1 = 0 := by unfold col0; simp (disch := omega) only [fup_a, frng_a]; exact hA
    have c0 : col0 H p 0 = 1 := by unfold col0; simp (disch := omega) only [fup_a, frng_a]; exact hB
    simp (disch := first | assumption | omega) only [st_X0_playRounds, st_X0_carryOut, st_X5_endRound, ↓if_pos, ↓if_neg, if_pos, if_neg, ↓reduceIte, true_and, and_true, false_and, and_false, true_or, or_true, false_or, or_false, w32_id, Kv, Kn, fup_s, fup_a, fup_k, fup_fup, Int.reduceAdd, Int.reduceSub, Int.reduceMul, Int.reduceNeg, S_note, Int.reduceAdd]
    refine hK _ _ _ ⟨rfl, rfl, ?_, ?_, ?_, ?_, ?_, ?_, ?_, ?_⟩
    all_goals simp (disch := omega) only [fup_a, fup_k, fup_s, fup_r]
    · exact c1
    · exact c0
    · exact c8
    · split <;> omega
    · split <;> omega
    all_goals (unfold col0; simp (disch := omega) only [fup_r, frng_r]; assumption)
  · rintro L H R ⟨rfl, rfl, hA, hB, hC, hD, hE, hF, hG, hH⟩
    rw [sh_X0_playRounds_9]
    simp (disch := first | assumption | omega) only [st_X0_playRounds, ↓if_pos, ↓if_neg, if_pos, if_neg, ↓reduceIte, true_and, and_true, false_and, and_false, true_or, or_true, false_or, or_false, w32_id, Kv, Kn, fup_s, fup_a, fup_k, fup_fup, Int.reduceAdd, Int.reduceSub, Int.reduceMul, Int.reduceNeg, hC]
    exact K _ hF hG hH
theorem F_sumOf {l : Int} {nx : Nat} {h r : PF} {s : Int → Int} {Q : PO → PY → Nat → PC → Prop} (hW : WFr r) (t0 : h 179 0 = 1) (t1 : h 179 1 = 0) : Wp 167 0 [some (pR 178), some (pI l), none, none] [] LY nx (h, r, s) Q ↔ Q (Sum.inl (some (pI 0))) LY nx (h, r, s) := by
  simp (disch := first | assumption | omega) only [st_X8_sumOf, ↓if_pos, ↓if_neg, if_pos, if_neg, ↓reduceIte, true_and, and_true, false_and, and_false, true_or, or_true, false_or, or_false, w32_id, Kv, Kn, fup_s, fup_a, fup_k, fup_fup, Int.reduceAdd, Int.reduceSub, Int.reduceMul, Int.reduceNeg, sh_X8_sumOf_4]
theorem F_bestLetter {nx : Nat} {h r : PF} {s : Int → Int} {Q : PO → PY → Nat → PC → Prop} (hW : WFr r) (t0 : h 179 0 = 1) (t1 : h 179 1 = 0) : Wp 168 0 [some (pR 178), none, none, none, none] [] LY nx (h, r, s) Q ↔ Q (Sum.inl (some (pI (-1)))) LY nx (h, r, s) := by
  simp (disch := first | assumption | omega) only [st_X8_bestLetter, ↓if_pos, ↓if_neg, if_pos, if_neg, ↓reduceIte, true_and, and_true, false_and, and_false, true_or, or_true, false_or, or_false, w32_id, Kv, Kn, fup_s, fup_a, fup_k, fup_fup, Int.reduceAdd, Int.reduceSub, Int.reduceMul, Int.reduceNeg, sh_X8_bestLetter_6, F_sumOf]
theorem F_priceOf {nx : Nat} {h r : PF} {s : Int → Int} {Q : PO → PY → Nat → PC → Prop} (hW : WFr r) (t0 : h 179 0 = 1) (t1 : h 179 1 = 0) : Wp 169 0 [some (pR 178), some (pI (-1)), none, none, none] [] LY nx (h, r, s) Q ↔ Q (Sum.inl (some (pI 0))) LY nx (h, r, s) := by
  simp (disch := first | assumption | omega) only [st_X8_priceOf, ↓if_pos, ↓if_neg, if_pos, if_neg, ↓reduceIte, true_and, and_true, false_and, and_false, true_or, or_true, false_or, or_false, w32_id, Kv, Kn, fup_s, fup_a, fup_k, fup_fup, Int.reduceAdd, Int.reduceSub, Int.reduceMul, Int.reduceNeg, sh_X8_priceOf_4]
def lay0 (h : PF) : PF := fup (fup (fup (fup h 184 0 0) 184 1 0) 184 2 0) 184 3 0
theorem F_laysPaid {nx : Nat} {h r : PF} {s : Int → Int} {Q : PO → PY → Nat → PC → Prop} (hW : WFr r) (t0 : h 179 0 = 1) (t1 : h 179 1 = 0) : Wp 170 0 [some (pR 178), some (pI (-1)), some (pI 0), none, none, none, none] [] LY nx (h, r, s) Q ↔ Q (Sum.inl none) LY nx (lay0 h, r, s) := by
  simp (disch := first | assumption | omega) only [st_X8_laysPaid_0, st_X8_laysPaid_1, ↓if_pos, ↓if_neg, if_pos, if_neg, ↓reduceIte, true_and, and_true, false_and, and_false, true_or, or_true, false_or, or_false, w32_id, Kv, Kn, fup_s, fup_a, fup_k, fup_fup, Int.reduceAdd, Int.reduceSub, Int.reduceMul, Int.reduceNeg, sh_X8_laysPaid_21, sh_X8_laysPaid_92, sh_X8_laysPaid_100]
  rfl
theorem F_plays {n : Int} {nx : Nat} {h r : PF} {s : Int → Int} {Q : PO → PY → Nat → PC → Prop} (hW : WFr r) (t0 : h 179 0 = 1) (t1 : h 179 1 = 0) (n3 : h 180 3 = 0) (g0 : h 178 0 = 0) (hn : 0 ≤ n) (hn2 : n ≤ 20) (K : ∀ h', h' 178 0 = 0 → h' 195 = h 195 → Q (Sum.inl (some (pI 0))) LY nx (h', r, s)) : Wp 179 0 [some (pR 178), some (pI n), none, none] [] LY nx (h, r, s) Q := by
  simp (disch := first | assumption | omega) only [st_X8_plays, ↓if_pos, ↓if_neg, if_pos, if_neg, ↓reduceIte, true_and, and_true, false_and, and_false, true_or, or_true, false_or, or_false, w32_id, Kv, Kn, fup_s, fup_a, fup_k, fup_fup, Int.reduceAdd, Int.reduceSub, Int.reduceMul, Int.reduceNeg]
  refine loopW (Inv := fun i L H R => L = [some (pR 178), some (pI n), some (pI 0), some (pI i)] ∧ R = r ∧ H 179 0 = 1 ∧ H 179 1 = 0 ∧ H 180 3 = 0 ∧ H 178 0 = 0 ∧ H 195 = h 195) (a := 0) (n := n) (by omega) ?_ ?_ _ _ _ ⟨rfl, rfl, t0, t1, n3, g0, rfl⟩
  · rintro i L H R hi hi2 ⟨rfl, rfl, hA, hB, hC, hD, hE⟩ hK
    rw [sh_X8_plays_4]
    simp (disch := first | assumption | omega) only [st_X8_plays, st_X8_rounds_0, st_X8_rounds_1, ↓if_pos, ↓if_neg, if_pos, if_neg, ↓reduceIte, true_and, and_true, false_and, and_false, true_or, or_true, false_or, or_false, w32_id, Kv, Kn, fup_s, fup_a, fup_k, fup_fup, Int.reduceAdd, Int.reduceSub, Int.reduceMul, Int.reduceNeg, F_bestLetter, F_priceOf, F_laysPaid]
    have c0 : lay0 H 179 0 = 1 := by unfold lay0; simp (disch := omega) only [fup_a]; exact hA
    have c1 : lay0 H 179 1 = 0 := by unfold lay0; simp (disch := omega) only [fup_a]; exact hB
    have c3 : lay0 H 180 3 = 0 := by unfold lay0; simp (disch := omega) only [fup_a]; exact hC
    have c8 : lay0 H 178 0 = 0 := by unfold lay0; simp (disch := omega) only [fup_a]; exact hD
    simp (disch := first | assumption | omega) only [st_X8_plays, st_X8_rounds_0, st_X8_rounds_1, ↓if_pos, ↓if_neg, if_pos, if_neg, ↓reduceIte, true_and, and_true, false_and, and_false, true_or, or_true, false_or, or_false, w32_id, Kv, Kn, fup_s, fup_a, fup_k, fup_fup, Int.reduceAdd, Int.reduceSub, Int.reduceMul, Int.reduceNeg, sh_X8_rounds_22, sh_X8_rounds_75, S_writes, frow_r]
    refine hK _ _ _ ⟨rfl, rfl, ?_, ?_, ?_, ?_, ?_⟩
    all_goals simp (disch := omega) only [fup_a, fup_k, fup_s, fup_r, frow_r, frow_s]
    · exact c0
    · exact c1
    · unfold gWrites; simp (disch := omega) only [if_neg]; exact c3
    · exact c8
    · unfold lay0; simp (disch := omega) only [fup_r]; exact hE
  · rintro L H R ⟨rfl, rfl, hA, hB, hC, hD, hE⟩
    rw [sh_X8_plays_4]
    simp (disch := first | assumption | omega) only [st_X8_plays, ↓if_pos, ↓if_neg, if_pos, if_neg, ↓reduceIte, true_and, and_true, false_and, and_false, true_or, or_true, false_or, or_false, w32_id, Kv, Kn, fup_s, fup_a, fup_k, fup_fup, Int.reduceAdd, Int.reduceSub, Int.reduceMul, Int.reduceNeg]
    exact K _ hD hE
