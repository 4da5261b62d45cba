/-! TEXT, THE CLASS: the whole text -/
theorem C_readStatement {p n j tr : Int} {b T : Int → Int} {W : Int → List Int} {nx : Nat} {h r : PF} {s : Int → Int} {Q : PO → PY → Nat → PC → Prop} (hW : WFr r) (hn : 0 ≤ n) (hP : PlOk r p) (hp : 20 < p) (hS : CSt h p b n (j, T, W, tr)) (hk : kk b n j ≠ 0) (Kf : ∀ (c e : Int) (h' : PF), pStm b n (j, T, W, tr) = Sum.inl (c, e) → CFr h h' p → h' 2 1 = c → h' 2 2 = e → Q (Sum.inl (some (pI 0))) LY nx (h', r, s)) (Ks : ∀ (S' : PSt) (h' : PF), pStm b n (j, T, W, tr) = Sum.inr S' → CFr h h' p → h' 2 1 = h 2 1 → h' 2 2 = h 2 2 → CSt h' p b n S' → Q (Sum.inl (some (pI 1))) LY nx (h', r, s)) : Wp 27 0 [some (pR 2), some (pR p), none, none, none, none, none] [] LY nx (h, r, s) Q := by
  have hS0 := hS
  obtain ⟨⟨hK, e7, hA⟩, ⟨e6, htr⟩, hN, hD, hDW⟩ := hS
  dsimp only at e7 hA e6 htr hN hD hDW
  have hP00 := hP
  obtain ⟨⟨hp0, hpk⟩, ⟨hpr5, hpp5, hpd5⟩, ⟨hpr6, hpp6, hpd6⟩, ⟨hpr7, hpp7, hpd7⟩, ⟨hpr8, hpp8, hpd8⟩, ⟨hpr9, hpp9, hpd9⟩, ⟨hpr10, hpp10, hpd10⟩⟩ := hP00
  have hT1 := hDW.2.1
  have hjr := (toks_at hn hK hA).1
  have ep1 := hD.1.2.1
  have ne := kw_ne
  by_cases k2 : isK b n j (-2)
  · have hpm : pStm b n (j, T, W, tr) = pMach b n j T W tr := by unfold pStm; rw [if_pos (show kk b n j = 1 ∧ ww b n j = kw (-2) from k2)]
    simp (disch := first | assumption | omega) only [st_X3_readStatement_0, st_X3_readStatement_1, ↓if_pos, ↓if_neg, if_pos, if_neg, ↓reduceIte, true_and, and_true, false_and, and_false, true_or, or_true, false_or, or_false, w32_id, Kv, Kn, fup_s, fup_a, fup_k, fup_fup, Int.reduceAdd, Int.reduceSub, Int.reduceMul, Int.reduceNeg, e7, S_isKey hW hn hK hA (a := -2) (by omega) (by omega) (x := 1) (Or.inl ⟨rfl, k2⟩)]
    refine C_readMachine hW hn hP hp hS0 hk (fun c e h' u1 u2 u3 u4 => ?_) (fun S' h' u1 u2 u3 u4 u5 => ?_)
    · have hKK := Kf c e h' (hpm.trans u1) u2 u3 u4
      simp (disch := first | assumption | omega) only [st_X3_readStatement_0, st_X3_readStatement_1, ↓if_pos, ↓if_neg, if_pos, if_neg, ↓reduceIte, true_and, and_true, false_and, and_false, true_or, or_true, false_or, or_false, w32_id, Kv, Kn, fup_s, fup_a, fup_k, fup_fup, Int.reduceAdd, Int.reduceSub, Int.reduceMul, Int.reduceNeg]
      exact hKK
    · have hKK := Ks S' h' (hpm.trans u1) u2 u3 u4 u5
      simp (disch := first | assumption | omega) only [st_X3_readStatement_0, st_X3_readStatement_1, ↓if_pos, ↓if_neg, if_pos, if_neg, ↓reduceIte, true_and, and_true, false_and, and_false, true_or, or_true, false_or, or_false, w32_id, Kv, Kn, fup_s, fup_a, fup_k, fup_fup, Int.reduceAdd, Int.reduceSub, Int.reduceMul, Int.reduceNeg]
      exact hKK
  by_cases k4 : isK b n j (-4)
  · have hpm : pStm b n (j, T, W, tr) = pTurn b n j T W tr := by unfold pStm; rw [if_neg (show ¬ (kk b n j = 1 ∧ ww b n j = kw (-2)) from k2), if_pos (show kk b n j = 1 ∧ ww b n j = kw (-4) from k4)]
    simp (disch := first | assumption | omega) only [st_X3_readStatement_0, st_X3_readStatement_1, ↓if_pos, ↓if_neg, if_pos, if_neg, ↓reduceIte, true_and, and_true, false_and, and_false, true_or, or_true, false_or, or_false, w32_id, Kv, Kn, fup_s, fup_a, fup_k, fup_fup, Int.reduceAdd, Int.reduceSub, Int.reduceMul, Int.reduceNeg, e7, S_isKey hW hn hK hA (a := -2) (by omega) (by omega) (x := 0) (Or.inr ⟨rfl, k2⟩), S_isKey hW hn hK hA (a := -4) (by omega) (by omega) (x := 1) (Or.inl ⟨rfl, k4⟩)]
    refine C_readTurn hW hn hP hp hS0 hk (fun c e h' u1 u2 u3 u4 => ?_) (fun S' h' u1 u2 u3 u4 u5 => ?_)
    · have hKK := Kf c e h' (hpm.trans u1) u2 u3 u4
      simp (disch := first | assumption | omega) only [st_X3_readStatement_0, st_X3_readStatement_1, ↓if_pos, ↓if_neg, if_pos, if_neg, ↓reduceIte, true_and, and_true, false_and, and_false, true_or, or_true, false_or, or_false, w32_id, Kv, Kn, fup_s, fup_a, fup_k, fup_fup, Int.reduceAdd, Int.reduceSub, Int.reduceMul, Int.reduceNeg]
      exact hKK
    · have hKK := Ks S' h' (hpm.trans u1) u2 u3 u4 u5
      simp (disch := first | assumption | omega) only [st_X3_readStatement_0, st_X3_readStatement_1, ↓if_pos, ↓if_neg, if_pos, if_neg, ↓reduceIte, true_and, and_true, false_and, and_false, true_or, or_true, false_or, or_false, w32_id, Kv, Kn, fup_s, fup_a, fup_k, fup_fup, Int.reduceAdd, Int.reduceSub, Int.reduceMul, Int.reduceNeg]
      exact hKK
  by_cases k5 : isK b n j (-5)
  · have k6 : ¬ isK b n j (-6) := fun z => ne.2.2.2.2.2.2.2.1 (k5.2.symm.trans z.2)
    have hC1 : CI (fup h 2 7 (j + 1)) b n (j + 1) := ⟨toks_fr hK (fup_a (by omega)) (fup_r (by omega)) (fup_r (by omega)) (fup_r (by omega)), by rw [fup_s], al_s hA hk⟩
    simp (disch := first | assumption | omega) only [st_X3_readStatement_0, st_X3_readStatement_1, ↓if_pos, ↓if_neg, if_pos, if_neg, ↓reduceIte, true_and, and_true, false_and, and_false, true_or, or_true, false_or, or_false, w32_id, Kv, Kn, fup_s, fup_a, fup_k, fup_fup, Int.reduceAdd, Int.reduceSub, Int.reduceMul, Int.reduceNeg, e7, S_isKey hW hn hK hA (a := -2) (by omega) (by omega) (x := 0) (Or.inr ⟨rfl, k2⟩), S_isKey hW hn hK hA (a := -4) (by omega) (by omega) (x := 0) (Or.inr ⟨rfl, k4⟩), S_isKey hW hn hK hA (a := -5) (by omega) (by omega) (x := 1) (Or.inl ⟨rfl, k5⟩), S_isKey hW hn hK hA (a := -6) (by omega) (by omega) (x := 0) (Or.inr ⟨rfl, k6⟩)]
    have hpm : ∀ X : PRs, (match pHead b n j T W with | Sum.inl e => Sum.inl e | Sum.inr mf => pGo b n j T W tr mf.1 mf.2) = X → pStm b n (j, T, W, tr) = X := fun X z => by
      unfold pStm
      rw [if_neg (show ¬ (kk b n j = 1 ∧ ww b n j = kw (-2)) from k2), if_neg (show ¬ (kk b n j = 1 ∧ ww b n j = kw (-4)) from k4), if_pos (show kk b n j = 1 ∧ ww b n j = kw (-5) from k5)]
      exact z
    have hph : ∀ X, kk b n (j + 1) = 1 → ¬ (gNm W (ww b n (j + 1)) (T 1) = -1) → (match pNum b n 0 (gO T (gNm W (ww b n (j + 1)) (T 1)) 2 - 1) (j + 1 + 1) with | Sum.inl e => Sum.inl e | Sum.inr f => Sum.inr (gNm W (ww b n (j + 1)) (T 1), f)) = X → pHead b n j T W = X := fun X y1 y2 z => by
      unfold pHead
      rw [if_neg (fun y => y y1), if_neg y2]
      exact z
    refine C_takeMachine (W := W) (T := T) hW hn hP hC1 (by rw [fup_a (by omega)]; exact ep1) hT1 (fun i i1 i2 => by rw [fup_a (by omega)]; exact hN i i1 i2) (fun c e h' q1 q2 q3 q4 q5 q6 => ?_) (fun h1 q1 q2 q3 q4 q5 hC2 => ?_)
    · have ff : CFr h h' p := ⟨fun x x1 x2 x3 => by rw [q3 x x1, fup_r x1], by rw [q4 0 (by omega) (by omega), fup_k (by omega)]⟩
      simp (disch := first | assumption | omega) only [st_X3_readStatement_0, st_X3_readStatement_1, ↓if_pos, ↓if_neg, if_pos, if_neg, ↓reduceIte, true_and, and_true, false_and, and_false, true_or, or_true, false_or, or_false, w32_id, Kv, Kn, fup_s, fup_a, fup_k, fup_fup, Int.reduceAdd, Int.reduceSub, Int.reduceMul, Int.reduceNeg]
      refine Kf c e h' (hpm _ ?_) ff q5 q6
      have eh : pHead b n j T W = Sum.inl (c, e) := by
        unfold pHead
        rw [q2]
        rcases q1 with z | z
        · rw [if_pos z.1, z.2]
        · rw [if_neg (fun y => y z.1), if_pos z.2.1, z.2.2]
      rw [eh]
    · have f1 : CFr h h1 p := ⟨fun x x1 x2 x3 => by rw [q3 x x1, fup_r x1], by rw [q4 0 (by omega) (by omega), fup_k (by omega)]⟩
      have gn : ¬ (gNm W (ww b n (j + 1)) (T 1) = -1) := by omega
      have hph2 := hph
      clear hph
      generalize hm : gNm W (ww b n (j + 1)) (T 1) = m at *
      have hm3 := hDW.2.2.2.2.2 m q2.1 (by omega)
      have hm6 := hm3.1 q2.2
      have hst : h1 (p + 3) m = gO T m 2 := by rw [q3 _ (by omega), fup_r (by omega)]; exact ((hD.2 m q2.1 (by omega)).1.1 q2.2).2.2
      simp (disch := first | assumption | omega) only [st_X3_readStatement_0, st_X3_readStatement_1, ↓if_pos, ↓if_neg, if_pos, if_neg, ↓reduceIte, true_and, and_true, false_and, and_false, true_or, or_true, false_or, or_false, w32_id, Kv, Kn, fup_s, fup_a, fup_k, fup_fup, Int.reduceAdd, Int.reduceSub, Int.reduceMul, Int.reduceNeg, q5, hst]
      refine C_takeNumber hW hn hC2 (by omega) (fun c e h' w1 w2 w3 w4 w5 => ?_) (fun f h2 w1 w2 w2k w3 w4 w5 hC3 => ?_)
      · have ff : CFr h h' p := cfr_t f1 ⟨fun x x1 x2 x3 => w2 x x1, w3 0 (by omega) (by omega)⟩
        simp (disch := first | assumption | omega) only [st_X3_readStatement_0, st_X3_readStatement_1, ↓if_pos, ↓if_neg, if_pos, if_neg, ↓reduceIte, true_and, and_true, false_and, and_false, true_or, or_true, false_or, or_false, w32_id, Kv, Kn, fup_s, fup_a, fup_k, fup_fup, Int.reduceAdd, Int.reduceSub, Int.reduceMul, Int.reduceNeg]
        exact Kf c e h' (hpm _ (by rw [hph2 _ q1 gn (by rw [w1])])) ff w4 w5
      · have f2 : CFr h h2 p := cfr_t f1 ⟨fun x x1 x2 x3 => w3 x x1, w4 0 (by omega) (by omega)⟩
        have ep := hpm _ (show _ = pGo b n j T W tr m f by rw [hph2 _ q1 gn (by rw [w1])])
        have g6 : h2 2 6 = h 2 6 := by rw [w4 6 (by omega) (by omega), q4 6 (by omega) (by omega), fup_k (by omega)]
        have g1 : h2 2 1 = h 2 1 := by rw [w4 1 (by omega) (by omega), q4 1 (by omega) (by omega), fup_k (by omega)]
        have g2 : h2 2 2 = h 2 2 := by rw [w4 2 (by omega) (by omega), q4 2 (by omega) (by omega), fup_k (by omega)]
        have g8 : h2 8 = h 8 := by rw [w3 8 (by omega), q3 8 (by omega), fup_r (by omega)]
        have hA2 := hC2.2.2
        have hS2 : CSt h2 p b n (j + 1 + 1 + 1, T, W, tr) := ⟨hC3, ⟨by dsimp only; rw [g6]; exact e6, htr⟩, fun i i1 i2 => by dsimp only at i2 ⊢; rw [g8]; exact hN i i1 i2, dr_fr (fun x x1 x2 => by rw [w3 x (by omega), q3 x (by omega), fup_r (by omega)]) hD, hDW⟩
        simp (disch := first | assumption | omega) only [st_X3_readStatement_0, st_X3_readStatement_1, ↓if_pos, ↓if_neg, if_pos, if_neg, ↓reduceIte, true_and, and_true, false_and, and_false, true_or, or_true, false_or, or_false, w32_id, Kv, Kn, fup_s, fup_a, fup_k, fup_fup, Int.reduceAdd, Int.reduceSub, Int.reduceMul, Int.reduceNeg, w5]
        refine C_readGo hW hn hP hp hS2 q2.1 q2.2 (by omega) (by omega) (fun c e h' u1 u2 u3 u4 => ?_) (fun S' h' u1 u2 u3 u4 u5 => ?_)
        · have hKK := Kf c e h' (ep.trans u1) (cfr_t f2 u2) u3 u4
          simp (disch := first | assumption | omega) only [st_X3_readStatement_0, st_X3_readStatement_1, ↓if_pos, ↓if_neg, if_pos, if_neg, ↓reduceIte, true_and, and_true, false_and, and_false, true_or, or_true, false_or, or_false, w32_id, Kv, Kn, fup_s, fup_a, fup_k, fup_fup, Int.reduceAdd, Int.reduceSub, Int.reduceMul, Int.reduceNeg]
          exact hKK
        · have hKK := Ks S' h' (ep.trans u1) (cfr_t f2 u2) (u3.trans g1) (u4.trans g2) u5
          simp (disch := first | assumption | omega) only [st_X3_readStatement_0, st_X3_readStatement_1, ↓if_pos, ↓if_neg, if_pos, if_neg, ↓reduceIte, true_and, and_true, false_and, and_false, true_or, or_true, false_or, or_false, w32_id, Kv, Kn, fup_s, fup_a, fup_k, fup_fup, Int.reduceAdd, Int.reduceSub, Int.reduceMul, Int.reduceNeg]
          exact hKK
  by_cases k6 : isK b n j (-6)
  · skip
    have hC1 : CI (fup h 2 7 (j + 1)) b n (j + 1) := ⟨toks_fr hK (fup_a (by omega)) (fup_r (by omega)) (fup_r (by omega)) (fup_r (by omega)), by rw [fup_s], al_s hA hk⟩
    simp (disch := first | assumption | omega) only [st_X3_readStatement_0, st_X3_readStatement_1, ↓if_pos, ↓if_neg, if_pos, if_neg, ↓reduceIte, true_and, and_true, false_and, and_false, true_or, or_true, false_or, or_false, w32_id, Kv, Kn, fup_s, fup_a, fup_k, fup_fup, Int.reduceAdd, Int.reduceSub, Int.reduceMul, Int.reduceNeg, e7, S_isKey hW hn hK hA (a := -2) (by omega) (by omega) (x := 0) (Or.inr ⟨rfl, k2⟩), S_isKey hW hn hK hA (a := -4) (by omega) (by omega) (x := 0) (Or.inr ⟨rfl, k4⟩), S_isKey hW hn hK hA (a := -5) (by omega) (by omega) (x := 0) (Or.inr ⟨rfl, k5⟩), S_isKey hW hn hK hA (a := -6) (by omega) (by omega) (x := 1) (Or.inl ⟨rfl, k6⟩)]
    have hpm : ∀ X : PRs, (match pHead b n j T W with | Sum.inl e => Sum.inl e | Sum.inr mf => pAcc b n j T W tr mf.1 mf.2) = X → pStm b n (j, T, W, tr) = X := fun X z => by
      unfold pStm
      rw [if_neg (show ¬ (kk b n j = 1 ∧ ww b n j = kw (-2)) from k2), if_neg (show ¬ (kk b n j = 1 ∧ ww b n j = kw (-4)) from k4), if_neg (show ¬ (kk b n j = 1 ∧ ww b n j = kw (-5)) from k5), if_pos (show kk b n j = 1 ∧ ww b n j = kw (-6) from k6)]
      exact z
    have hph : ∀ X, kk b n (j + 1) = 1 → ¬ (gNm W (ww b n (j + 1)) (T 1) = -1) → (match pNum b n 0 (gO T (gNm W (ww b n (j + 1)) (T 1)) 2 - 1) (j + 1 + 1) with | Sum.inl e => Sum.inl e | Sum.inr f => Sum.inr (gNm W (ww b n (j + 1)) (T 1), f)) = X → pHead b n j T W = X := fun X y1 y2 z => by
      unfold pHead
      rw [if_neg (fun y => y y1), if_neg y2]
      exact z
    refine C_takeMachine (W := W) (T := T) hW hn hP hC1 (by rw [fup_a (by omega)]; exact ep1) hT1 (fun i i1 i2 => by rw [fup_a (by omega)]; exact hN i i1 i2) (fun c e h' q1 q2 q3 q4 q5 q6 => ?_) (fun h1 q1 q2 q3 q4 q5 hC2 => ?_)
    · have ff : CFr h h' p := ⟨fun x x1 x2 x3 => by rw [q3 x x1, fup_r x1], by rw [q4 0 (by omega) (by omega), fup_k (by omega)]⟩
      simp (disch := first | assumption | omega) only [st_X3_readStatement_0, st_X3_readStatement_1, ↓if_pos, ↓if_neg, if_pos, if_neg, ↓reduceIte, true_and, and_true, false_and, and_false, true_or, or_true, false_or, or_false, w32_id, Kv, Kn, fup_s, fup_a, fup_k, fup_fup, Int.reduceAdd, Int.reduceSub, Int.reduceMul, Int.reduceNeg]
      refine Kf c e h' (hpm _ ?_) ff q5 q6
      have eh : pHead b n j T W = Sum.inl (c, e) := by
        unfold pHead
        rw [q2]
        rcases q1 with z | z
        · rw [if_pos z.1, z.2]
        · rw [if_neg (fun y => y z.1), if_pos z.2.1, z.2.2]
      rw [eh]
    · have f1 : CFr h h1 p := ⟨fun x x1 x2 x3 => by rw [q3 x x1, fup_r x1], by rw [q4 0 (by omega) (by omega), fup_k (by omega)]⟩
      have gn : ¬ (gNm W (ww b n (j + 1)) (T 1) = -1) := by omega
      have hph2 := hph
      clear hph
      generalize hm : gNm W (ww b n (j + 1)) (T 1) = m at *
      have hm3 := hDW.2.2.2.2.2 m q2.1 (by omega)
      have hm6 := hm3.1 q2.2
      have hst : h1 (p + 3) m = gO T m 2 := by rw [q3 _ (by omega), fup_r (by omega)]; exact ((hD.2 m q2.1 (by omega)).1.1 q2.2).2.2
      simp (disch := first | assumption | omega) only [st_X3_readStatement_0, st_X3_readStatement_1, ↓if_pos, ↓if_neg, if_pos, if_neg, ↓reduceIte, true_and, and_true, false_and, and_false, true_or, or_true, false_or, or_false, w32_id, Kv, Kn, fup_s, fup_a, fup_k, fup_fup, Int.reduceAdd, Int.reduceSub, Int.reduceMul, Int.reduceNeg, q5, hst]
      refine C_takeNumber hW hn hC2 (by omega) (fun c e h' w1 w2 w3 w4 w5 => ?_) (fun f h2 w1 w2 w2k w3 w4 w5 hC3 => ?_)
      · have ff : CFr h h' p := cfr_t f1 ⟨fun x x1 x2 x3 => w2 x x1, w3 0 (by omega) (by omega)⟩
        simp (disch := first | assumption | omega) only [st_X3_readStatement_0, st_X3_readStatement_1, ↓if_pos, ↓if_neg, if_pos, if_neg, ↓reduceIte, true_and, and_true, false_and, and_false, true_or, or_true, false_or, or_false, w32_id, Kv, Kn, fup_s, fup_a, fup_k, fup_fup, Int.reduceAdd, Int.reduceSub, Int.reduceMul, Int.reduceNeg]
        exact Kf c e h' (hpm _ (by rw [hph2 _ q1 gn (by rw [w1])])) ff w4 w5
      · have f2 : CFr h h2 p := cfr_t f1 ⟨fun x x1 x2 x3 => w3 x x1, w4 0 (by omega) (by omega)⟩
        have ep := hpm _ (show _ = pAcc b n j T W tr m f by rw [hph2 _ q1 gn (by rw [w1])])
        have g6 : h2 2 6 = h 2 6 := by rw [w4 6 (by omega) (by omega), q4 6 (by omega) (by omega), fup_k (by omega)]
        have g1 : h2 2 1 = h 2 1 := by rw [w4 1 (by omega) (by omega), q4 1 (by omega) (by omega), fup_k (by omega)]
        have g2 : h2 2 2 = h 2 2 := by rw [w4 2 (by omega) (by omega), q4 2 (by omega) (by omega), fup_k (by omega)]
        have g8 : h2 8 = h 8 := by rw [w3 8 (by omega), q3 8 (by omega), fup_r (by omega)]
        have hA2 := hC2.2.2
        have hS2 : CSt h2 p b n (j + 1 + 1 + 1, T, W, tr) := ⟨hC3, ⟨by dsimp only; rw [g6]; exact e6, htr⟩, fun i i1 i2 => by dsimp only at i2 ⊢; rw [g8]; exact hN i i1 i2, dr_fr (fun x x1 x2 => by rw [w3 x (by omega), q3 x (by omega), fup_r (by omega)]) hD, hDW⟩
        simp (disch := first | assumption | omega) only [st_X3_readStatement_0, st_X3_readStatement_1, ↓if_pos, ↓if_neg, if_pos, if_neg, ↓reduceIte, true_and, and_true, false_and, and_false, true_or, or_true, false_or, or_false, w32_id, Kv, Kn, fup_s, fup_a, fup_k, fup_fup, Int.reduceAdd, Int.reduceSub, Int.reduceMul, Int.reduceNeg, w5]
        refine C_readAccept hW hn hP hp hS2 hA2 q2.1 q2.2 (by omega) (by omega) (fun c e h' u1 u2 u3 u4 => ?_) (fun S' h' u1 u2 u3 u4 u5 => ?_)
        · have hKK := Kf c e h' (ep.trans u1) (cfr_t f2 u2) u3 u4
          simp (disch := first | assumption | omega) only [st_X3_readStatement_0, st_X3_readStatement_1, ↓if_pos, ↓if_neg, if_pos, if_neg, ↓reduceIte, true_and, and_true, false_and, and_false, true_or, or_true, false_or, or_false, w32_id, Kv, Kn, fup_s, fup_a, fup_k, fup_fup, Int.reduceAdd, Int.reduceSub, Int.reduceMul, Int.reduceNeg]
          exact hKK
        · have hKK := Ks S' h' (ep.trans u1) (cfr_t f2 u2) (u3.trans g1) (u4.trans g2) u5
          simp (disch := first | assumption | omega) only [st_X3_readStatement_0, st_X3_readStatement_1, ↓if_pos, ↓if_neg, if_pos, if_neg, ↓reduceIte, true_and, and_true, false_and, and_false, true_or, or_true, false_or, or_false, w32_id, Kv, Kn, fup_s, fup_a, fup_k, fup_fup, Int.reduceAdd, Int.reduceSub, Int.reduceMul, Int.reduceNeg]
          exact hKK
  by_cases k7 : isK b n j (-7)
  · skip
    have hC1 : CI (fup h 2 7 (j + 1)) b n (j + 1) := ⟨toks_fr hK (fup_a (by omega)) (fup_r (by omega)) (fup_r (by omega)) (fup_r (by omega)), by rw [fup_s], al_s hA hk⟩
    simp (disch := first | assumption | omega) only [st_X3_readStatement_0, st_X3_readStatement_1, ↓if_pos, ↓if_neg, if_pos, if_neg, ↓reduceIte, true_and, and_true, false_and, and_false, true_or, or_true, false_or, or_false, w32_id, Kv, Kn, fup_s, fup_a, fup_k, fup_fup, Int.reduceAdd, Int.reduceSub, Int.reduceMul, Int.reduceNeg, e7, S_isKey hW hn hK hA (a := -2) (by omega) (by omega) (x := 0) (Or.inr ⟨rfl, k2⟩), S_isKey hW hn hK hA (a := -4) (by omega) (by omega) (x := 0) (Or.inr ⟨rfl, k4⟩), S_isKey hW hn hK hA (a := -5) (by omega) (by omega) (x := 0) (Or.inr ⟨rfl, k5⟩), S_isKey hW hn hK hA (a := -6) (by omega) (by omega) (x := 0) (Or.inr ⟨rfl, k6⟩), S_isKey hW hn hK hA (a := -7) (by omega) (by omega) (x := 1) (Or.inl ⟨rfl, k7⟩)]
    have hpm : ∀ X : PRs, (match pHead b n j T W with | Sum.inl e => Sum.inl e | Sum.inr mf => pTire b n j T W tr mf.1 mf.2) = X → pStm b n (j, T, W, tr) = X := fun X z => by
      unfold pStm
      rw [if_neg (show ¬ (kk b n j = 1 ∧ ww b n j = kw (-2)) from k2), if_neg (show ¬ (kk b n j = 1 ∧ ww b n j = kw (-4)) from k4), if_neg (show ¬ (kk b n j = 1 ∧ ww b n j = kw (-5)) from k5), if_neg (show ¬ (kk b n j = 1 ∧ ww b n j = kw (-6)) from k6), if_pos (show kk b n j = 1 ∧ ww b n j = kw (-7) from k7)]
      exact z
    have hph : ∀ X, kk b n (j + 1) = 1 → ¬ (gNm W (ww b n (j + 1)) (T 1) = -1) → (match pNum b n 0 (gO T (gNm W (ww b n (j + 1)) (T 1)) 2 - 1) (j + 1 + 1) with | Sum.inl e => Sum.inl e | Sum.inr f => Sum.inr (gNm W (ww b n (j + 1)) (T 1), f)) = X → pHead b n j T W = X := fun X y1 y2 z => by
      unfold pHead
      rw [if_neg (fun y => y y1), if_neg y2]
      exact z
    refine C_takeMachine (W := W) (T := T) hW hn hP hC1 (by rw [fup_a (by omega)]; exact ep1) hT1 (fun i i1 i2 => by rw [fup_a (by omega)]; exact hN i i1 i2) (fun c e h' q1 q2 q3 q4 q5 q6 => ?_) (fun h1 q1 q2 q3 q4 q5 hC2 => ?_)
    · have ff : CFr h h' p := ⟨fun x x1 x2 x3 => by rw [q3 x x1, fup_r x1], by rw [q4 0 (by omega) (by omega), fup_k (by omega)]⟩
      simp (disch := first | assumption | omega) only [st_X3_readStatement_0, st_X3_readStatement_1, ↓if_pos, ↓if_neg, if_pos, if_neg, ↓reduceIte, true_and, and_true, false_and, and_false, true_or, or_true, false_or, or_false, w32_id, Kv, Kn, fup_s, fup_a, fup_k, fup_fup, Int.reduceAdd, Int.reduceSub, Int.reduceMul, Int.reduceNeg]
      refine Kf c e h' (hpm _ ?_) ff q5 q6
      have eh : pHead b n j T W = Sum.inl (c, e) := by
        unfold pHead
        rw [q2]
        rcases q1 with z | z
        · rw [if_pos z.1, z.2]
        · rw [if_neg (fun y => y z.1), if_pos z.2.1, z.2.2]
      rw [eh]
    · have f1 : CFr h h1 p := ⟨fun x x1 x2 x3 => by rw [q3 x x1, fup_r x1], by rw [q4 0 (by omega) (by omega), fup_k (by omega)]⟩
      have gn : ¬ (gNm W (ww b n (j + 1)) (T 1) = -1) := by omega
      have hph2 := hph
      clear hph
      generalize hm : gNm W (ww b n (j + 1)) (T 1) = m at *
      have hm3 := hDW.2.2.2.2.2 m q2.1 (by omega)
      have hm6 := hm3.1 q2.2
      have hst : h1 (p + 3) m = gO T m 2 := by rw [q3 _ (by omega), fup_r (by omega)]; exact ((hD.2 m q2.1 (by omega)).1.1 q2.2).2.2
      simp (disch := first | assumption | omega) only [st_X3_readStatement_0, st_X3_readStatement_1, ↓if_pos, ↓if_neg, if_pos, if_neg, ↓reduceIte, true_and, and_true, false_and, and_false, true_or, or_true, false_or, or_false, w32_id, Kv, Kn, fup_s, fup_a, fup_k, fup_fup, Int.reduceAdd, Int.reduceSub, Int.reduceMul, Int.reduceNeg, q5, hst]
      refine C_takeNumber hW hn hC2 (by omega) (fun c e h' w1 w2 w3 w4 w5 => ?_) (fun f h2 w1 w2 w2k w3 w4 w5 hC3 => ?_)
      · have ff : CFr h h' p := cfr_t f1 ⟨fun x x1 x2 x3 => w2 x x1, w3 0 (by omega) (by omega)⟩
        simp (disch := first | assumption | omega) only [st_X3_readStatement_0, st_X3_readStatement_1, ↓if_pos, ↓if_neg, if_pos, if_neg, ↓reduceIte, true_and, and_true, false_and, and_false, true_or, or_true, false_or, or_false, w32_id, Kv, Kn, fup_s, fup_a, fup_k, fup_fup, Int.reduceAdd, Int.reduceSub, Int.reduceMul, Int.reduceNeg]
        exact Kf c e h' (hpm _ (by rw [hph2 _ q1 gn (by rw [w1])])) ff w4 w5
      · have f2 : CFr h h2 p := cfr_t f1 ⟨fun x x1 x2 x3 => w3 x x1, w4 0 (by omega) (by omega)⟩
        have ep := hpm _ (show _ = pTire b n j T W tr m f by rw [hph2 _ q1 gn (by rw [w1])])
        have g6 : h2 2 6 = h 2 6 := by rw [w4 6 (by omega) (by omega), q4 6 (by omega) (by omega), fup_k (by omega)]
        have g1 : h2 2 1 = h 2 1 := by rw [w4 1 (by omega) (by omega), q4 1 (by omega) (by omega), fup_k (by omega)]
        have g2 : h2 2 2 = h 2 2 := by rw [w4 2 (by omega) (by omega), q4 2 (by omega) (by omega), fup_k (by omega)]
        have g8 : h2 8 = h 8 := by rw [w3 8 (by omega), q3 8 (by omega), fup_r (by omega)]
        have hA2 := hC2.2.2
        have hS2 : CSt h2 p b n (j + 1 + 1 + 1, T, W, tr) := ⟨hC3, ⟨by dsimp only; rw [g6]; exact e6, htr⟩, fun i i1 i2 => by dsimp only at i2 ⊢; rw [g8]; exact hN i i1 i2, dr_fr (fun x x1 x2 => by rw [w3 x (by omega), q3 x (by omega), fup_r (by omega)]) hD, hDW⟩
        simp (disch := first | assumption | omega) only [st_X3_readStatement_0, st_X3_readStatement_1, ↓if_pos, ↓if_neg, if_pos, if_neg, ↓reduceIte, true_and, and_true, false_and, and_false, true_or, or_true, false_or, or_false, w32_id, Kv, Kn, fup_s, fup_a, fup_k, fup_fup, Int.reduceAdd, Int.reduceSub, Int.reduceMul, Int.reduceNeg, w5]
        refine C_readTire hW hn hP hp hS2 hA2 q2.1 q2.2 (by omega) (by omega) (fun c e h' u1 u2 u3 u4 => ?_) (fun S' h' u1 u2 u3 u4 u5 => ?_)
        · have hKK := Kf c e h' (ep.trans u1) (cfr_t f2 u2) u3 u4
          simp (disch := first | assumption | omega) only [st_X3_readStatement_0, st_X3_readStatement_1, ↓if_pos, ↓if_neg, if_pos, if_neg, ↓reduceIte, true_and, and_true, false_and, and_false, true_or, or_true, false_or, or_false, w32_id, Kv, Kn, fup_s, fup_a, fup_k, fup_fup, Int.reduceAdd, Int.reduceSub, Int.reduceMul, Int.reduceNeg]
          exact hKK
        · have hKK := Ks S' h' (ep.trans u1) (cfr_t f2 u2) (u3.trans g1) (u4.trans g2) u5
          simp (disch := first | assumption | omega) only [st_X3_readStatement_0, st_X3_readStatement_1, ↓if_pos, ↓if_neg, if_pos, if_neg, ↓reduceIte, true_and, and_true, false_and, and_false, true_or, or_true, false_or, or_false, w32_id, Kv, Kn, fup_s, fup_a, fup_k, fup_fup, Int.reduceAdd, Int.reduceSub, Int.reduceMul, Int.reduceNeg]
          exact hKK
  have hKK := Kf 1 (ss b n j) (fup (fup h 2 1 1) 2 2 (ss b n j)) (by unfold pStm; rw [if_neg (show ¬ (kk b n j = 1 ∧ ww b n j = kw (-2)) from k2), if_neg (show ¬ (kk b n j = 1 ∧ ww b n j = kw (-4)) from k4), if_neg (show ¬ (kk b n j = 1 ∧ ww b n j = kw (-5)) from k5), if_neg (show ¬ (kk b n j = 1 ∧ ww b n j = kw (-6)) from k6), if_neg (show ¬ (kk b n j = 1 ∧ ww b n j = kw (-7)) from k7)]) ⟨fun x x1 x2 x3 => by rw [fup_r x1, fup_r x1], by rw [fup_k (by omega), fup_k (by omega)]⟩ (by rw [fup_k (by omega), fup_s]) (by rw [fup_s])
  simp (disch := first | assumption | omega) only [st_X3_readStatement_0, st_X3_readStatement_1, ↓if_pos, ↓if_neg, if_pos, if_neg, ↓reduceIte, true_and, and_true, false_and, and_false, true_or, or_true, false_or, or_false, w32_id, Kv, Kn, fup_s, fup_a, fup_k, fup_fup, Int.reduceAdd, Int.reduceSub, Int.reduceMul, Int.reduceNeg, e7, S_isKey hW hn hK hA (a := -2) (by omega) (by omega) (x := 0) (Or.inr ⟨rfl, k2⟩), S_isKey hW hn hK hA (a := -4) (by omega) (by omega) (x := 0) (Or.inr ⟨rfl, k4⟩), S_isKey hW hn hK hA (a := -5) (by omega) (by omega) (x := 0) (Or.inr ⟨rfl, k5⟩), S_isKey hW hn hK hA (a := -6) (by omega) (by omega) (x := 0) (Or.inr ⟨rfl, k6⟩), S_isKey hW hn hK hA (a := -7) (by omega) (by omega) (x := 0) (Or.inr ⟨rfl, k7⟩), S_failC hW hn hK hA]
  exact hKK
theorem S_clear {p : Int} {nx : Nat} {h r : PF} {s : Int → Int} {Q : PO → PY → Nat → PC → Prop} (hP : PlOk r p) : Wp 19 0 [some (pR p)] [] LY nx (h, r, s) Q ↔ Q (Sum.inl none) LY nx (frng (frng (frng (fup (fup (fup (fup (fup h p 0 1) p 1 0) p 2 0) p 3 4) p 4 1) (p + 4) 0 4 (fun _ => 0)) (p + 5) 0 24 (fun _ => -1)) (p + 6) 0 96 (fun _ => -1), r, s) := by
  obtain ⟨⟨hp0, hpk⟩, ⟨hpr5, hpp5, hpd5⟩, ⟨hpr6, hpp6, hpd6⟩, ⟨hpr7, hpp7, hpd7⟩, ⟨hpr8, hpp8, hpd8⟩, ⟨hpr9, hpp9, hpd9⟩, ⟨hpr10, hpp10, hpd10⟩⟩ := hP
  simp (disch := first | assumption | omega) only [st_X2_clear, ↓if_pos, ↓if_neg, if_pos, if_neg, ↓reduceIte, true_and, and_true, false_and, and_false, true_or, or_true, false_or, or_false, w32_id, Kv, Kn, fup_s, fup_a, fup_k, fup_fup, Int.reduceAdd, Int.reduceSub, Int.reduceMul, Int.reduceNeg, (S_fill (a := p + 4) (n := 4) hpp8 hpd8 (by decide)), (S_fill (a := p + 5) (n := 24) hpp9 hpd9 (by decide)), (S_fill (a := p + 6) (n := 96) hpp10 hpd10 (by decide))]
  rfl
theorem S_clearsRead {nx : Nat} {h r : PF} {s : Int → Int} {Q : PO → PY → Nat → PC → Prop} (hW : WFr r) : Wp 149 0 [some (pR 178), none] [] LY nx (h, r, s) Q ↔ Q (Sum.inl none) LY nx (fup (fup (fup (frng h 182 0 164 (fun _ => 0)) 182 2 4) 182 3 1) 178 14 0, r, s) := by
  simp (disch := first | assumption | omega) only [st_X8_clearsRead, ↓if_pos, ↓if_neg, if_pos, if_neg, ↓reduceIte, true_and, and_true, false_and, and_false, true_or, or_true, false_or, or_false, w32_id, Kv, Kn, fup_s, fup_a, fup_k, fup_fup, Int.reduceAdd, Int.reduceSub, Int.reduceMul, Int.reduceNeg]
  refine Iff.trans (loopR (Lf := fun i => [some (pR 178), some (pI i)]) (Hf := fun i => frng h 182 0 i (fun _ => 0)) (a := 0) (n := 164) (by omega) (by rfl) (frng_nil (by omega)).symm ?_) ?_
  · intro i hi hi2
    refine Iff.trans sh_X8_clearsRead_2 ?_
    simp (disch := first | assumption | omega) only [st_X8_clearsRead, ↓if_pos, ↓if_neg, if_pos, if_neg, ↓reduceIte, true_and, and_true, false_and, and_false, true_or, or_true, false_or, or_false, w32_id, Kv, Kn, fup_s, fup_a, fup_k, fup_fup, Int.reduceAdd, Int.reduceSub, Int.reduceMul, Int.reduceNeg]
    rw [frng_end (by omega) rfl]
  · refine Iff.trans sh_X8_clearsRead_2 ?_
    simp (disch := first | assumption | omega) only [st_X8_clearsRead, ↓if_pos, ↓if_neg, if_pos, if_neg, ↓reduceIte, true_and, and_true, false_and, and_false, true_or, or_true, false_or, or_false, w32_id, Kv, Kn, fup_s, fup_a, fup_k, fup_fup, Int.reduceAdd, Int.reduceSub, Int.reduceMul, Int.reduceNeg]
def pLoop (b : Int → Int) (n : Int) : Nat → PSt → PRs
  | 0, S => Sum.inr S
  | f + 1, S => if kk b n S.1 = 0 then Sum.inr S else match pStm b n S with
    | Sum.inl e => Sum.inl e
    | Sum.inr S' => if kk b n S'.1 = 3 then pLoop b n f (S'.1 + 1, S'.2) else Sum.inl (1, ss b n S'.1)
def T00 (c : Int) : Int → Int := up1 (up1 (up1 (fun _ => 0) 2 4) 3 1) 0 c
def pTop (b : Int → Int) (n : Int) : PRs :=
  if ¬ (kk b n 0 = 1 ∧ ww b n 0 = kw (-1)) then Sum.inl (1, ss b n 0)
  else match pNum b n 1 4 1 with
    | Sum.inl e => Sum.inl e
    | Sum.inr c => if kk b n 2 = 3 then pLoop b n 600 (3, T00 c, fun _ => [], 0) else Sum.inl (1, ss b n 2)
theorem K_rLoop {p n : Int} {b : Int → Int} {nx : Nat} {h0 r : PF} {s : Int → Int} {Q : PO → PY → Nat → PC → Prop} (hW : WFr r) (hn : 0 ≤ n) (hP : PlOk r p) (hp : 20 < p) : ∀ (f : Nat) (i : Int) (S : PSt) (h : PF), 0 ≤ i → i + f = 600 → CFr h0 h p → h 2 1 = h0 2 1 → h 2 2 = h0 2 2 → CSt h p b n S → (∀ (c e : Int) (h' : PF), pLoop b n f S = Sum.inl (c, e) → CFr h0 h' p → h' 2 1 = c → h' 2 2 = e → Q (Sum.inl (some (pI 0))) LY nx (h', r, s)) → (∀ (S' : PSt) (h' : PF), pLoop b n f S = Sum.inr S' → CFr h0 h' p → h' 2 1 = h0 2 1 → h' 2 2 = h0 2 2 → CSt h' p b n S' → Q (Sum.inl (some (pI 1))) LY nx (h', r, s)) → Wp 26 96 [some (pR 2), some (pR p), some (pI n), some (pI 1), some (pI (i))] [] LY nx (h, r, s) Q
  | 0, i, S, h, hi0, hi, hf, g1, g2, hS, Kf, Ks => by
    have hKK := Ks S h rfl hf g1 g2 hS
    refine (sh_X3_readInto_96).mpr ?_
    simp (disch := first | assumption | omega) only [st_X3_readInto_0, st_X3_readInto_1, ↓if_pos, ↓if_neg, if_pos, if_neg, ↓reduceIte, true_and, and_true, false_and, and_false, true_or, or_true, false_or, or_false, w32_id, Kv, Kn, fup_s, fup_a, fup_k, fup_fup, Int.reduceAdd, Int.reduceSub, Int.reduceMul, Int.reduceNeg]
    exact hKK
  | f + 1, i, S, h, hi0, hi, hf, g1, g2, hS, Kf, Ks => by
    obtain ⟨j, T, W, tr⟩ := S
    have hS0 := hS
    obtain ⟨⟨hK, e7, hA⟩, _, _, _, _⟩ := hS
    dsimp only at e7 hA
    refine (sh_X3_readInto_96).mpr ?_
    by_cases hk : kk b n j = 0
    · have hKK := Ks _ h (by unfold pLoop; rw [if_pos hk]) hf g1 g2 hS0
      simp (disch := first | assumption | omega) only [st_X3_readInto_0, st_X3_readInto_1, ↓if_pos, ↓if_neg, if_pos, if_neg, ↓reduceIte, true_and, and_true, false_and, and_false, true_or, or_true, false_or, or_false, w32_id, Kv, Kn, fup_s, fup_a, fup_k, fup_fup, Int.reduceAdd, Int.reduceSub, Int.reduceMul, Int.reduceNeg, e7, S_kind hW hn hK hA, hk]
      exact hKK
    · have hpl : ∀ X, (match pStm b n (j, T, W, tr) with
          | Sum.inl e => Sum.inl e
          | Sum.inr S' => if kk b n S'.1 = 3 then pLoop b n f (S'.1 + 1, S'.2) else Sum.inl (1, ss b n S'.1)) = X → pLoop b n (f + 1) (j, T, W, tr) = X := fun X z => by
        unfold pLoop
        rw [if_neg hk]
        exact z
      simp (disch := first | assumption | omega) only [st_X3_readInto_0, st_X3_readInto_1, ↓if_pos, ↓if_neg, if_pos, if_neg, ↓reduceIte, true_and, and_true, false_and, and_false, true_or, or_true, false_or, or_false, w32_id, Kv, Kn, fup_s, fup_a, fup_k, fup_fup, Int.reduceAdd, Int.reduceSub, Int.reduceMul, Int.reduceNeg, e7, S_kind hW hn hK hA]
      refine C_readStatement hW hn hP hp hS0 hk (fun c e h' u1 u2 u3 u4 => ?_) (fun S' h1 u1 u2 u3 u4 u5 => ?_)
      · have hKK := Kf c e h' (hpl _ (by rw [u1])) (cfr_t hf u2) u3 u4
        simp (disch := first | assumption | omega) only [st_X3_readInto_0, st_X3_readInto_1, ↓if_pos, ↓if_neg, if_pos, if_neg, ↓reduceIte, true_and, and_true, false_and, and_false, true_or, or_true, false_or, or_false, w32_id, Kv, Kn, fup_s, fup_a, fup_k, fup_fup, Int.reduceAdd, Int.reduceSub, Int.reduceMul, Int.reduceNeg]
        refine (sh_X3_readInto_96).mpr ?_
        by_cases hi6 : i + 1 < 600
        · simp (disch := first | assumption | omega) only [st_X3_readInto_0, st_X3_readInto_1, ↓if_pos, ↓if_neg, if_pos, if_neg, ↓reduceIte, true_and, and_true, false_and, and_false, true_or, or_true, false_or, or_false, w32_id, Kv, Kn, fup_s, fup_a, fup_k, fup_fup, Int.reduceAdd, Int.reduceSub, Int.reduceMul, Int.reduceNeg]
          exact hKK
        · simp (disch := first | assumption | omega) only [st_X3_readInto_0, st_X3_readInto_1, ↓if_pos, ↓if_neg, if_pos, if_neg, ↓reduceIte, true_and, and_true, false_and, and_false, true_or, or_true, false_or, or_false, w32_id, Kv, Kn, fup_s, fup_a, fup_k, fup_fup, Int.reduceAdd, Int.reduceSub, Int.reduceMul, Int.reduceNeg]
          exact hKK
      · obtain ⟨j', T', W', tr'⟩ := S'
        have u50 := u5
        obtain ⟨hC, e6, hN, hD, hDW⟩ := u5
        dsimp only at hC e6 hN hD hDW
        simp (disch := first | assumption | omega) only [st_X3_readInto_0, st_X3_readInto_1, ↓if_pos, ↓if_neg, if_pos, if_neg, ↓reduceIte, true_and, and_true, false_and, and_false, true_or, or_true, false_or, or_false, w32_id, Kv, Kn, fup_s, fup_a, fup_k, fup_fup, Int.reduceAdd, Int.reduceSub, Int.reduceMul, Int.reduceNeg]
        refine C_takeSemi hW hn hC (fun h' w1 w2 w3 w4 w5 => ?_) (fun h' w1 w2 w3 hC2 => ?_)
        · have hKK := Kf 1 (ss b n j') h' (hpl _ (by rw [u1]; dsimp only; rw [if_neg w1])) (cfr_t (cfr_t hf u2) ⟨fun x x1 x2 x3 => w2 x x1, w3 0 (by omega) (by omega)⟩) w4 w5
          simp (disch := first | assumption | omega) only [st_X3_readInto_0, st_X3_readInto_1, ↓if_pos, ↓if_neg, if_pos, if_neg, ↓reduceIte, true_and, and_true, false_and, and_false, true_or, or_true, false_or, or_false, w32_id, Kv, Kn, fup_s, fup_a, fup_k, fup_fup, Int.reduceAdd, Int.reduceSub, Int.reduceMul, Int.reduceNeg]
          refine (sh_X3_readInto_96).mpr ?_
          by_cases hi6 : i + 1 < 600
          · simp (disch := first | assumption | omega) only [st_X3_readInto_0, st_X3_readInto_1, ↓if_pos, ↓if_neg, if_pos, if_neg, ↓reduceIte, true_and, and_true, false_and, and_false, true_or, or_true, false_or, or_false, w32_id, Kv, Kn, fup_s, fup_a, fup_k, fup_fup, Int.reduceAdd, Int.reduceSub, Int.reduceMul, Int.reduceNeg]
            exact hKK
          · simp (disch := first | assumption | omega) only [st_X3_readInto_0, st_X3_readInto_1, ↓if_pos, ↓if_neg, if_pos, if_neg, ↓reduceIte, true_and, and_true, false_and, and_false, true_or, or_true, false_or, or_false, w32_id, Kv, Kn, fup_s, fup_a, fup_k, fup_fup, Int.reduceAdd, Int.reduceSub, Int.reduceMul, Int.reduceNeg]
            exact hKK
        · have hS2 : CSt h' p b n (j' + 1, T', W', tr') := ⟨hC2, ⟨by dsimp only; rw [w3 6 (by omega)]; exact e6.1, e6.2⟩, fun i i1 i2 => by dsimp only at i2 ⊢; rw [w2 8 (by omega)]; exact hN i i1 i2, dr_fr (fun x x1 x2 => w2 x (by omega)) hD, hDW⟩
          have hR := K_rLoop hW hn hP hp f (i + 1) (j' + 1, T', W', tr') h' (by omega) (by omega) (cfr_t (cfr_t hf u2) ⟨fun x x1 x2 x3 => w2 x x1, w3 0 (by omega)⟩) (by rw [w3 1 (by omega), u3, g1]) (by rw [w3 2 (by omega), u4, g2]) hS2 (fun c e h3 v1 v2 v3 v4 => Kf c e h3 (hpl _ (by rw [u1]; dsimp only; rw [if_pos w1]; exact v1)) v2 v3 v4) (fun S3 h3 v1 v2 v3 v4 v5 => Ks S3 h3 (hpl _ (by rw [u1]; dsimp only; rw [if_pos w1]; exact v1)) v2 v3 v4 v5)
          simp (disch := first | assumption | omega) only [st_X3_readInto_0, st_X3_readInto_1, ↓if_pos, ↓if_neg, if_pos, if_neg, ↓reduceIte, true_and, and_true, false_and, and_false, true_or, or_true, false_or, or_false, w32_id, Kv, Kn, fup_s, fup_a, fup_k, fup_fup, Int.reduceAdd, Int.reduceSub, Int.reduceMul, Int.reduceNeg]
          exact hR
theorem C_readInto {p n : Int} {b : Int → Int} {nx : Nat} {h r : PF} {s : Int → Int} {Q : PO → PY → Nat → PC → Prop} (hW : WFr r) (hn : 0 ≤ n) (hn2 : n ≤ 600) (hb : ∀ k, 0 ≤ k → k < n → h 3 k = b k ∧ -128 ≤ b k ∧ b k ≤ 127) (hP : PlOk r p) (hp : 20 < p) (Kf : ∀ (c e : Int) (h' : PF), pTop b n = Sum.inl (c, e) → (∀ a, a ≠ 2 → (a < 4 ∨ 8 < a) → (a < p ∨ p + 6 < a) → h' a = h a) → h' 2 0 = h 2 0 → h' 2 1 = c → h' 2 2 = e → Q (Sum.inl (some (pI 0))) LY nx (h', r, s)) (Ks : ∀ (S' : PSt) (h' : PF), pTop b n = Sum.inr S' → (∀ a, a ≠ 2 → (a < 4 ∨ 8 < a) → (a < p ∨ p + 6 < a) → h' a = h a) → h' 2 0 = h 2 0 → h' 2 1 = 0 → h' 2 2 = -1 → CSt h' p b n S' → Q (Sum.inl (some (pI 1))) LY nx (h', r, s)) : Wp 26 0 [some (pR 2), some (pR p), some (pI n), none, none] [] LY nx (h, r, s) Q := by
  have hP00 := hP
  obtain ⟨⟨hp0, hpk⟩, ⟨hpr5, hpp5, hpd5⟩, ⟨hpr6, hpp6, hpd6⟩, ⟨hpr7, hpp7, hpd7⟩, ⟨hpr8, hpp8, hpd8⟩, ⟨hpr9, hpp9, hpd9⟩, ⟨hpr10, hpp10, hpd10⟩⟩ := hP00
  have hw2 := hW
  simp (disch := first | assumption | omega) only [st_X3_readInto_0, st_X3_readInto_1, ↓if_pos, ↓if_neg, if_pos, if_neg, ↓reduceIte, true_and, and_true, false_and, and_false, true_or, or_true, false_or, or_false, w32_id, Kv, Kn, fup_s, fup_a, fup_k, fup_fup, Int.reduceAdd, Int.reduceSub, Int.reduceMul, Int.reduceNeg, S_clear]
  refine C_find hW hn hn2 (b := b) (fun k k1 k2 => ?_) (fun h1 hf hK => ?_)
  · simp (disch := omega) only [fup_r, frng_r]; exact hb k k1 k2
  have hA : Al b n 0 := al_0
  have z0 : h1 2 7 = 0 := by rw [hf 2 (by omega)]; simp (disch := omega) only [fup_r, frng_r, fup_s, fup_k]
  have z1 : h1 2 1 = 0 := by rw [hf 2 (by omega)]; simp (disch := omega) only [fup_r, frng_r, fup_s, fup_k]
  have z2 : h1 2 2 = -1 := by rw [hf 2 (by omega)]; simp (disch := omega) only [fup_r, frng_r, fup_s, fup_k]
  have z6 : h1 2 6 = 0 := by rw [hf 2 (by omega)]; simp (disch := omega) only [fup_r, frng_r, fup_s, fup_k]
  have z00 : h1 2 0 = h 2 0 := by rw [hf 2 (by omega)]; simp (disch := omega) only [fup_r, frng_r, fup_s, fup_k]
  have f1 : ∀ a, a ≠ 2 → (a < 4 ∨ 8 < a) → (a < p ∨ p + 6 < a) → h1 a = h a := fun a a1 a2 a3 => by rw [hf a (by omega)]; simp (disch := omega) only [fup_r, frng_r]
  have y1 : h1 p 1 = 0 := by rw [hf p (by omega)]; simp (disch := omega) only [fup_r, frng_r, fup_s, fup_k, frng_a, fup_a]
  have y2 : h1 p 2 = 0 := by rw [hf p (by omega)]; simp (disch := omega) only [fup_r, frng_r, fup_s, fup_k, frng_a, fup_a]
  have y3 : h1 p 3 = 4 := by rw [hf p (by omega)]; simp (disch := omega) only [fup_r, frng_r, fup_s, fup_k, frng_a, fup_a]
  have y4 : h1 p 4 = 1 := by rw [hf p (by omega)]; simp (disch := omega) only [fup_r, frng_r, fup_s, fup_k, frng_a, fup_a]
  have x4 : ∀ m, 0 ≤ m → m < 4 → h1 (p + 4) m = 0 := fun m m1 m2 => by rw [hf (p + 4) (by omega), frng_r (by omega), frng_r (by omega), frng_in (by omega) (by omega)]
  have x5 : ∀ m, 0 ≤ m → m < 24 → h1 (p + 5) m = -1 := fun m m1 m2 => by rw [hf (p + 5) (by omega), frng_r (by omega), frng_in (by omega) (by omega)]
  have x6 : ∀ m, 0 ≤ m → m < 96 → h1 (p + 6) m = -1 := fun m m1 m2 => by rw [hf (p + 6) (by omega), frng_in (by omega) (by omega)]
  clear hf
  by_cases k1 : isK b n 0 (-1)
  · have hk : kk b n 0 ≠ 0 := by rw [k1.1]; omega
    have hC1 : CI (fup h1 2 7 (0 + 1)) b n (0 + 1) := ⟨toks_fr hK (fup_a (by omega)) (fup_r (by omega)) (fup_r (by omega)) (fup_r (by omega)), by rw [fup_s], al_s hA hk⟩
    have hpt : ∀ X, (match pNum b n 1 4 1 with
        | Sum.inl e => Sum.inl e
        | Sum.inr c => if kk b n 2 = 3 then pLoop b n 600 (3, T00 c, fun _ => [], 0) else Sum.inl (1, ss b n 2)) = X → pTop b n = X := fun X z => by
      unfold pTop
      rw [if_neg (show ¬ ¬ (kk b n 0 = 1 ∧ ww b n 0 = kw (-1)) from fun y => y k1)]
      exact z
    simp (disch := first | assumption | omega) only [st_X3_readInto_0, st_X3_readInto_1, ↓if_pos, ↓if_neg, if_pos, if_neg, ↓reduceIte, true_and, and_true, false_and, and_false, true_or, or_true, false_or, or_false, w32_id, Kv, Kn, fup_s, fup_a, fup_k, fup_fup, Int.reduceAdd, Int.reduceSub, Int.reduceMul, Int.reduceNeg, z0, S_isKey hW hn hK hA (a := -1) (by omega) (by omega) (x := 1) (Or.inl ⟨rfl, k1⟩)]
    refine C_takeNumber hW hn hC1 (by omega) (fun c e h' w1 w2 w3 w4 w5 => ?_) (fun c h2 w1 w2 w2k w3 w4 w5 hC2 => ?_)
    · have hKK := Kf c e h' (hpt _ (by rw [show pNum b n 1 4 1 = Sum.inl (c, e) from w1])) (fun a a1 a2 a3 => by rw [w2 a a1, fup_r a1]; exact f1 a a1 a2 a3) (by rw [w3 0 (by omega) (by omega), fup_k (by omega)]; exact z00) w4 w5
      simp (disch := first | assumption | omega) only [st_X3_readInto_0, st_X3_readInto_1, ↓if_pos, ↓if_neg, if_pos, if_neg, ↓reduceIte, true_and, and_true, false_and, and_false, true_or, or_true, false_or, or_false, w32_id, Kv, Kn, fup_s, fup_a, fup_k, fup_fup, Int.reduceAdd, Int.reduceSub, Int.reduceMul, Int.reduceNeg]
      exact hKK
    · have hC3 : CI (fup h2 p 0 c) b n (0 + 1 + 1) := ci_fr hC2 hp (fun x x1 x2 x3 => fup_r (by omega)) (fup_a (by omega))
      simp (disch := first | assumption | omega) only [st_X3_readInto_0, st_X3_readInto_1, ↓if_pos, ↓if_neg, if_pos, if_neg, ↓reduceIte, true_and, and_true, false_and, and_false, true_or, or_true, false_or, or_false, w32_id, Kv, Kn, fup_s, fup_a, fup_k, fup_fup, Int.reduceAdd, Int.reduceSub, Int.reduceMul, Int.reduceNeg, w5]
      refine C_takeSemi hW hn hC3 (fun h' u1 u2 u3 u4 u5 => ?_) (fun h' u1 u2 u3 hC4 => ?_)
      · have hKK := Kf 1 (ss b n 2) h' (hpt _ (by rw [show pNum b n 1 4 1 = _ from w1]; dsimp only; rw [if_neg (show ¬ kk b n 2 = 3 from u1)])) (fun a a1 a2 a3 => by rw [u2 a a1, fup_r (by omega), w3 a a1, fup_r a1]; exact f1 a a1 a2 a3) (by rw [u3 0 (by omega) (by omega), fup_a (by omega), w4 0 (by omega) (by omega), fup_k (by omega)]; exact z00) u4 u5
        simp (disch := first | assumption | omega) only [st_X3_readInto_0, st_X3_readInto_1, ↓if_pos, ↓if_neg, if_pos, if_neg, ↓reduceIte, true_and, and_true, false_and, and_false, true_or, or_true, false_or, or_false, w32_id, Kv, Kn, fup_s, fup_a, fup_k, fup_fup, Int.reduceAdd, Int.reduceSub, Int.reduceMul, Int.reduceNeg]
        refine (sh_X3_readInto_96).mpr ?_
        simp (disch := first | assumption | omega) only [st_X3_readInto_0, st_X3_readInto_1, ↓if_pos, ↓if_neg, if_pos, if_neg, ↓reduceIte, true_and, and_true, false_and, and_false, true_or, or_true, false_or, or_false, w32_id, Kv, Kn, fup_s, fup_a, fup_k, fup_fup, Int.reduceAdd, Int.reduceSub, Int.reduceMul, Int.reduceNeg]
        exact hKK
      · have r1 : ∀ k, k ≠ 7 → k ≠ 8 → h' 2 k = h1 2 k := fun k q1 q2 => by rw [u3 k q1, fup_a (by omega), w4 k q1 q2, fup_k q1]
        have rp : ∀ x, p ≤ x → h' x = fup h1 p 0 c x := fun x q1 => by
          rw [u2 x (by omega)]
          by_cases e : x = p
          · rw [e]
            funext k
            by_cases e2 : k = 0
            · rw [e2, fup_s, fup_s]
            · rw [fup_k e2, fup_k e2, w3 p (by omega), fup_r (by omega)]
          · rw [fup_r e, fup_r e, w3 x (by omega), fup_r (by omega)]
        have hT0 : ∀ k, 4 ≤ k → T00 c k = 0 := fun k q => by unfold T00; rw [up1_k (by omega), up1_k (by omega), up1_k (by omega)]
        have t0 : T00 c 0 = c := up1_s
        have t1 : T00 c 1 = 0 := by unfold T00; rw [up1_k (by omega), up1_k (by omega), up1_k (by omega)]
        have t2 : T00 c 2 = 4 := by unfold T00; rw [up1_k (by omega), up1_k (by omega), up1_s]
        have t3 : T00 c 3 = 1 := by unfold T00; rw [up1_k (by omega), up1_s]
        have hgO : ∀ m w, 0 ≤ m → 0 ≤ w → gO (T00 c) m w = 0 := fun m w q1 q2 => hT0 _ (by omega)
        have hgS : ∀ m t w, 0 ≤ m → 0 ≤ t → 0 ≤ w → gS (T00 c) m t w = 0 := fun m t w q1 q2 q3 => hT0 _ (by omega)
        have hD : DRel h' p (T00 c) := by
          unfold DRel
          rw [rp p (by omega), rp (p + 1) (by omega), rp (p + 2) (by omega), rp (p + 3) (by omega), rp (p + 4) (by omega), rp (p + 5) (by omega), rp (p + 6) (by omega), fup_r (show p + 4 ≠ p by omega), fup_r (show p + 5 ≠ p by omega), fup_r (show p + 6 ≠ p by omega), t0, t1, t2, t3, fup_s, fup_k (by omega), fup_k (by omega), fup_k (by omega), fup_k (by omega), y1, y2, y3, y4]
          refine ⟨⟨rfl, rfl, rfl, rfl, by omega, by omega⟩, fun m m1 m2 => ⟨⟨fun q => absurd q (by omega), ?_, ?_⟩, fun t q1 q2 => ⟨⟨?_, ?_⟩, fun l l1 l2 => ?_⟩⟩⟩
          · rw [hgO m 3 m1 (by omega)]
            exact ⟨fun q => absurd (show pand (pshr 0 m) 1 = 1 from q) (by rw [bit0 m1 (by omega)]; decide), fun q => absurd q (by decide)⟩
          · rw [x4 m m1 m2]; omega
          · rw [x4 m m1 m2, hgS m t 0 m1 q1 (by omega)]
            exact ⟨fun q => absurd q (by rw [bit0 q1 (by omega)]; decide), fun q => absurd q (by decide)⟩
          · rw [hgS m t 1 m1 q1 (by omega), if_pos rfl]; exact x5 _ (by omega) (by omega)
          · unfold gGo; rw [hgS m t (2 + l) m1 q1 (by omega), x6 _ (by omega) (by omega)]; omega
        have hDW : DWf (T00 c) := by
          refine ⟨by rw [t0]; omega, by rw [t1]; omega, by rw [t2]; omega, by rw [t3]; omega, fun k q1 q2 => ?_, fun m m1 m2 => ?_⟩
          · by_cases q : 4 ≤ k
            · rw [hT0 k q]; omega
            · have : k = 0 ∨ k = 1 ∨ k = 2 ∨ k = 3 := by omega
              rcases this with q | q | q | q <;> rw [q]
              · rw [t0]; omega
              · rw [t1]; omega
              · rw [t2]; omega
              · rw [t3]; omega
          · rw [t1]
            refine ⟨fun q => absurd q (by omega), by rw [hgO m 3 m1 (by omega)]; omega, fun q w q1 q2 => hgO m w m1 q1, fun t q1 q2 => ⟨⟨by rw [hgS m t 0 m1 q1 (by omega)]; omega, by rw [hgS m t 1 m1 q1 (by omega)]; omega⟩, fun l l1 l2 => ?_⟩⟩
            rw [hgS m t (2 + l) m1 q1 (by omega), hgO m 2 m1 (by omega)]; omega
        have hS : CSt h' p b n (3, T00 c, fun _ => [], 0) := ⟨hC4, ⟨by dsimp only; rw [r1 6 (by omega) (by omega)]; exact z6, Or.inl rfl⟩, fun i i1 i2 => by dsimp only at i2; omega, hD, hDW⟩
        have fr : ∀ a, a ≠ 2 → (a < 4 ∨ 8 < a) → (a < p ∨ p + 6 < a) → h' a = h a := fun a a1 a2 a3 => by rw [u2 a a1, fup_r (by omega), w3 a a1, fup_r a1]; exact f1 a a1 a2 a3
        simp (disch := first | assumption | omega) only [st_X3_readInto_0, st_X3_readInto_1, ↓if_pos, ↓if_neg, if_pos, if_neg, ↓reduceIte, true_and, and_true, false_and, and_false, true_or, or_true, false_or, or_false, w32_id, Kv, Kn, fup_s, fup_a, fup_k, fup_fup, Int.reduceAdd, Int.reduceSub, Int.reduceMul, Int.reduceNeg]
        refine K_rLoop hW hn hP hp 600 0 _ h' (by omega) (by omega) ⟨fun x x1 x2 x3 => rfl, rfl⟩ rfl rfl hS (fun c e h3 v1 v2 v3 v4 => ?_) (fun S3 h3 v1 v2 v3 v4 v5 => ?_)
        · exact Kf c e h3 (hpt _ (by rw [show pNum b n 1 4 1 = _ from w1]; dsimp only; rw [if_pos (show kk b n 2 = 3 from u1)]; exact v1)) (fun a a1 a2 a3 => (v2.1 a a1 (by omega) a3).trans (fr a a1 a2 a3)) (by rw [v2.2, r1 0 (by omega) (by omega)]; exact z00) v3 v4
        · exact Ks S3 h3 (hpt _ (by rw [show pNum b n 1 4 1 = _ from w1]; dsimp only; rw [if_pos (show kk b n 2 = 3 from u1)]; exact v1)) (fun a a1 a2 a3 => (v2.1 a a1 (by omega) a3).trans (fr a a1 a2 a3)) (by rw [v2.2, r1 0 (by omega) (by omega)]; exact z00) (by rw [v3, r1 1 (by omega) (by omega)]; exact z1) (by rw [v4, r1 2 (by omega) (by omega)]; exact z2) v5
  · have hKK := Kf 1 (ss b n 0) (fup (fup h1 2 1 1) 2 2 (ss b n 0)) (by unfold pTop; rw [if_pos (show ¬ (kk b n 0 = 1 ∧ ww b n 0 = kw (-1)) from k1)]) (fun a a1 a2 a3 => by rw [fup_r a1, fup_r a1]; exact f1 a a1 a2 a3) (by rw [fup_k (by omega), fup_k (by omega)]; exact z00) (by rw [fup_k (by omega), fup_s]) (by rw [fup_s])
    simp (disch := first | assumption | omega) only [st_X3_readInto_0, st_X3_readInto_1, ↓if_pos, ↓if_neg, if_pos, if_neg, ↓reduceIte, true_and, and_true, false_and, and_false, true_or, or_true, false_or, or_false, w32_id, Kv, Kn, fup_s, fup_a, fup_k, fup_fup, Int.reduceAdd, Int.reduceSub, Int.reduceMul, Int.reduceNeg, z0, S_failC hW hn hK hA, S_isKey hW hn hK hA (a := -1) (by omega) (by omega) (x := 0) (Or.inr ⟨rfl, k1⟩)]
    exact hKK
