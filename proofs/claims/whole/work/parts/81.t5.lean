/-! TEXT, THE CLASS: statements -/
def CSt (h : PF) (p : Int) (b : Int → Int) (n : Int) (S : PSt) : Prop := CI h b n S.1 ∧ (h 2 6 = S.2.2.2 ∧ (S.2.2.2 = 0 ∨ S.2.2.2 = 1)) ∧ (∀ i, 0 ≤ i → i < S.2.1 1 → h 8 i = N32 (S.2.2.1 i) ∧ Dg (S.2.2.1 i)) ∧ DRel h p S.2.1 ∧ DWf S.2.1
def CFr (h h' : PF) (p : Int) : Prop := (∀ a, a ≠ 2 → a ≠ 8 → (a < p ∨ p + 6 < a) → h' a = h a) ∧ h' 2 0 = h 2 0
theorem cfr_t {h h1 h2 : PF} {p : Int} (a : CFr h h1 p) (c : CFr h1 h2 p) : CFr h h2 p := ⟨fun x x1 x2 x3 => (c.1 x x1 x2 x3).trans (a.1 x x1 x2 x3), c.2.trans a.2⟩
theorem ci_fr {h h' : PF} {p j : Int} {b : Int → Int} {n : Int} (hC : CI h b n j) (hp : 20 < p) (hf : ∀ a, a ≠ 2 → a ≠ 8 → (a < p ∨ p + 6 < a) → h' a = h a) (h7 : h' 2 7 = h 2 7) : CI h' b n j := ⟨toks_fr hC.1 (by rw [hf 4 (by omega) (by omega) (by omega)]) (hf 5 (by omega) (by omega) (by omega)) (hf 6 (by omega) (by omega) (by omega)) (hf 7 (by omega) (by omega) (by omega)), by rw [h7]; exact hC.2.1, hC.2.2⟩
theorem C_readTurn {p n j tr : Int} {b T : Int → Int} {W : Int → List Int} {nx : Nat} {h r : PF} {s : Int → Int} {Q : PO → PY → Nat → PC → Prop} (hW : WFr r) (hn : 0 ≤ n) (hP : PlOk r p) (hp : 20 < p) (hS : CSt h p b n (j, T, W, tr)) (hk : kk b n j ≠ 0) (Kf : ∀ (c e : Int) (h' : PF), pTurn b n j T W tr = Sum.inl (c, e) → CFr h h' p → h' 2 1 = c → h' 2 2 = e → Q (Sum.inl (some (pI 0))) LY nx (h', r, s)) (Ks : ∀ (S' : PSt) (h' : PF), pTurn b n j T W tr = Sum.inr S' → CFr h h' p → h' 2 1 = h 2 1 → h' 2 2 = h 2 2 → CSt h' p b n S' → Q (Sum.inl (some (pI 1))) LY nx (h', r, s)) : Wp 32 0 [some (pR 2), some (pR p)] [] LY nx (h, r, s) Q := by
  obtain ⟨⟨hK, e7, hA⟩, ⟨e6, htr⟩, hN, hD, hDW⟩ := hS
  dsimp only at e7 hA e6 htr hN hD hDW
  have hP0 := hP.1.1
  have hPk := hP.1.2
  have hjr := (toks_at hn hK hA).1
  by_cases ht : tr = 0
  · have e60 : h 2 6 = 0 := by omega
    simp (disch := first | assumption | omega) only [st_X3_readTurn, ↓if_pos, ↓if_neg, if_pos, if_neg, ↓reduceIte, true_and, and_true, false_and, and_false, true_or, or_true, false_or, or_false, w32_id, Kv, Kn, fup_s, fup_a, fup_k, fup_fup, Int.reduceAdd, Int.reduceSub, Int.reduceMul, Int.reduceNeg, e60, e7]
    have hC1 : CI (fup (fup h 2 6 1) 2 7 (j + 1)) b n (j + 1) := ⟨toks_fr hK (by rw [fup_a (by omega), fup_a (by omega)]) (by rw [fup_r (by omega), fup_r (by omega)]) (by rw [fup_r (by omega), fup_r (by omega)]) (by rw [fup_r (by omega), fup_r (by omega)]), by rw [fup_s], al_s hA hk⟩
    refine C_takeNumber hW hn hC1 (by omega) (fun c e h' q1 q2 q3 q4 q5 => ?_) (fun a h1 q1 q2 q2k q3 q4 q5 hC2 => ?_)
    · have f : CFr h h' p := ⟨fun x x1 x2 x3 => by rw [q2 x x1, fup_r x1, fup_r x1], by rw [q3 0 (by omega) (by omega), fup_k (by omega), fup_k (by omega)]⟩
      simp (disch := first | assumption | omega) only [st_X3_readTurn, ↓if_pos, ↓if_neg, if_pos, if_neg, ↓reduceIte, true_and, and_true, false_and, and_false, true_or, or_true, false_or, or_false, w32_id, Kv, Kn, fup_s, fup_a, fup_k, fup_fup, Int.reduceAdd, Int.reduceSub, Int.reduceMul, Int.reduceNeg]
      exact Kf c e h' (by unfold pTurn; rw [if_neg (fun z => z ht), q1]) f q4 q5
    · have f1 : CFr h h1 p := ⟨fun x x1 x2 x3 => by rw [q3 x x1, fup_r x1, fup_r x1], by rw [q4 0 (by omega) (by omega), fup_k (by omega), fup_k (by omega)]⟩
      have hD1 : DRel h1 p T := dr_fr (fun x x1 x2 => by rw [q3 x (by omega), fup_r (by omega), fup_r (by omega)]) hD
      have g6 : h1 2 6 = 1 := by rw [q4 6 (by omega) (by omega), fup_k (by omega), fup_s]
      have g1 : h1 2 1 = h 2 1 := by rw [q4 1 (by omega) (by omega), fup_k (by omega), fup_k (by omega)]
      have g2 : h1 2 2 = h 2 2 := by rw [q4 2 (by omega) (by omega), fup_k (by omega), fup_k (by omega)]
      have g8 : h1 8 = h 8 := by rw [q3 8 (by omega), fup_r (by omega), fup_r (by omega)]
      simp (disch := first | assumption | omega) only [st_X3_readTurn, ↓if_pos, ↓if_neg, if_pos, if_neg, ↓reduceIte, true_and, and_true, false_and, and_false, true_or, or_true, false_or, or_false, w32_id, Kv, Kn, fup_s, fup_a, fup_k, fup_fup, Int.reduceAdd, Int.reduceSub, Int.reduceMul, Int.reduceNeg, q5]
      have hC3 : CI (fup h1 p 3 a) b n (j + 1 + 1) := ci_fr hC2 hp (fun x x1 x2 x3 => fup_r (by omega)) (fup_a (by omega))
      refine C_takeNumber hW hn hC3 (by omega) (fun c e h' w1 w2 w3 w4 w5 => ?_) (fun c h2 w1 w2 w2k w3 w4 w5 hC4 => ?_)
      · have f : CFr h h' p := cfr_t f1 ⟨fun x x1 x2 x3 => by rw [w2 x x1, fup_r (by omega)], by rw [w3 0 (by omega) (by omega), fup_a (by omega)]⟩
        simp (disch := first | assumption | omega) only [st_X3_readTurn, ↓if_pos, ↓if_neg, if_pos, if_neg, ↓reduceIte, true_and, and_true, false_and, and_false, true_or, or_true, false_or, or_false, w32_id, Kv, Kn, fup_s, fup_a, fup_k, fup_fup, Int.reduceAdd, Int.reduceSub, Int.reduceMul, Int.reduceNeg]
        exact Kf c e h' (by unfold pTurn; rw [if_neg (fun z => z ht), q1]; dsimp only; rw [w1]) f w4 w5
      · have f : CFr h (fup h2 p 4 c) p := cfr_t f1 ⟨fun x x1 x2 x3 => by rw [fup_r (by omega), w3 x x1, fup_r (by omega)], by rw [fup_a (by omega), w4 0 (by omega) (by omega), fup_a (by omega)]⟩
        simp (disch := first | assumption | omega) only [st_X3_readTurn, ↓if_pos, ↓if_neg, if_pos, if_neg, ↓reduceIte, true_and, and_true, false_and, and_false, true_or, or_true, false_or, or_false, w32_id, Kv, Kn, fup_s, fup_a, fup_k, fup_fup, Int.reduceAdd, Int.reduceSub, Int.reduceMul, Int.reduceNeg, w5]
        have hD2 : DRel (fup h2 p 4 c) p (up1 (up1 T 2 a) 3 c) := by
          refine dr_fr (fun x x1 x2 => ?_) (dr_turn (a := a) (c := c) hD1)
          funext k
          unfold fup
          by_cases z : x = p ∧ k = 4
          · rw [if_pos z, if_pos z]
          · rw [if_neg z, if_neg z, w3 x (by omega)]
            rfl
        refine Ks _ (fup h2 p 4 c) (by unfold pTurn; rw [if_neg (fun z => z ht), q1]; dsimp only; rw [w1]) f (by rw [fup_a (by omega), w4 1 (by omega) (by omega), fup_a (by omega), g1]) (by rw [fup_a (by omega), w4 2 (by omega) (by omega), fup_a (by omega), g2]) ⟨ci_fr hC4 hp (fun x x1 x2 x3 => fup_r (by omega)) (fup_a (by omega)), ⟨?_, Or.inr rfl⟩, fun i i1 i2 => ?_, hD2, dwf_turn (a := a) (c := c) hDW (by omega) (by omega)⟩
        · dsimp only
          rw [fup_a (by omega), w4 6 (by omega) (by omega), fup_a (by omega), g6]
        · dsimp only at i2 ⊢
          rw [up1_k (by omega), up1_k (by omega)] at i2
          rw [fup_a (by omega), w3 8 (by omega), fup_a (by omega), g8]
          exact hN i i1 i2
  · have e61 : h 2 6 = 1 := by omega
    have hKK := Kf 2 (ss b n j) (fup (fup h 2 1 2) 2 2 (ss b n j)) (by unfold pTurn; rw [if_pos ht]) ⟨fun x x1 x2 x3 => by rw [fup_r x1, fup_r x1], by rw [fup_k (by omega), fup_k (by omega)]⟩ (by rw [fup_k (by omega), fup_s]) (by rw [fup_s])
    simp (disch := first | assumption | omega) only [st_X3_readTurn, ↓if_pos, ↓if_neg, if_pos, if_neg, ↓reduceIte, true_and, and_true, false_and, and_false, true_or, or_true, false_or, or_false, w32_id, Kv, Kn, fup_s, fup_a, fup_k, fup_fup, Int.reduceAdd, Int.reduceSub, Int.reduceMul, Int.reduceNeg, e61, e7, S_failC hW hn hK hA]
    exact hKK
theorem C_readAccept {p n j tr m f : Int} {b T : Int → Int} {W : Int → List Int} {nx : Nat} {h r : PF} {s : Int → Int} {Q : PO → PY → Nat → PC → Prop} (hW : WFr r) (hn : 0 ≤ n) (hP : PlOk r p) (hp : 20 < p) (hS : CSt h p b n (j + 1 + 1 + 1, T, W, tr)) (hA2 : Al b n (j + 1 + 1)) (hm : 0 ≤ m) (hm2 : m < T 1) (hf0 : 0 ≤ f) (hf6 : f < gO T m 2) (Kf : ∀ (c e : Int) (h' : PF), pAcc b n j T W tr m f = Sum.inl (c, e) → CFr h h' p → h' 2 1 = c → h' 2 2 = e → Q (Sum.inl (some (pI 0))) LY nx (h', r, s)) (Ks : ∀ (S' : PSt) (h' : PF), pAcc b n j T W tr m f = Sum.inr S' → CFr h h' p → h' 2 1 = h 2 1 → h' 2 2 = h 2 2 → CSt h' p b n S' → Q (Sum.inl (some (pI 1))) LY nx (h', r, s)) : Wp 30 0 [some (pR 2), some (pR p), some (pI m), some (pI f)] [] LY nx (h, r, s) Q := by
  obtain ⟨⟨hK, e7, hA⟩, ⟨e6, htr⟩, hN, hD, hDW⟩ := hS
  dsimp only at e7 hA e6 htr hN hD hDW
  have hP00 := hP
  obtain ⟨⟨hp0, hpk⟩, ⟨hpr5, hpp5, hpd5⟩, ⟨hpr6, hpp6, hpd6⟩, ⟨hpr7, hpp7, hpd7⟩, ⟨hpr8, hpp8, hpd8⟩, ⟨hpr9, hpp9, hpd9⟩, ⟨hpr10, hpp10, hpd10⟩⟩ := hP00
  have hT1 := hDW.2.1
  have h6 := (hDW.2.2.2.2.2 m hm (by omega)).1 hm2
  have hjr := (toks_at hn hK hA).1
  have hd := hD.2 m hm (by omega)
  have hdf := hd.2 f hf0 (by omega)
  have ej : j + 1 + 1 + 1 - 1 = j + 1 + 1 := by omega
  by_cases hg : gS T m f 0 = 1
  · have hb : pand (pshr (h (p + 4) m) f) 1 = 1 := hdf.1.1.mpr hg
    have hKK := Kf 2 (ss b n (j + 1 + 1)) (fup (fup h 2 1 2) 2 2 (ss b n (j + 1 + 1))) (by unfold pAcc; rw [if_pos (by omega)]) ⟨fun x x1 x2 x3 => by rw [fup_r x1, fup_r x1], by rw [fup_k (by omega), fup_k (by omega)]⟩ (by rw [fup_k (by omega), fup_s]) (by rw [fup_s])
    simp (disch := first | assumption | omega) only [st_X3_readAccept, ↓if_pos, ↓if_neg, if_pos, if_neg, ↓reduceIte, true_and, and_true, false_and, and_false, true_or, or_true, false_or, or_false, w32_id, Kv, Kn, fup_s, fup_a, fup_k, fup_fup, Int.reduceAdd, Int.reduceSub, Int.reduceMul, Int.reduceNeg, C_isGoal hP hm (show m < 4 by omega), if_pos hb, e7, ej, S_failC hW hn hK hA2]
    exact hKK
  · have hb : ¬ pand (pshr (h (p + 4) m) f) 1 = 1 := fun z => hg (hdf.1.1.mp z)
    have hg0 : gS T m f 0 = 0 := by
      have a1 := ((hDW.2.2.2.2.2 m hm (by omega)).2.2.2 f hf0 (by omega)).1.1
      have a2 := (hDW.2.2.2.2.1 (4 + 40 * m + (4 + 6 * f + 0)) (by omega) (by omega)).1
      have a3 : gS T m f 0 = T (4 + 40 * m + (4 + 6 * f + 0)) := rfl
      omega
    have hKK := Ks _ (fup h (p + 4) m (por (h (p + 4) m) (pshl 1 f))) (by unfold pAcc; rw [if_neg (by omega)]) ⟨fun x x1 x2 x3 => fup_r (by omega), fup_a (by omega)⟩ (fup_a (by omega)) (fup_a (by omega)) ⟨ci_fr ⟨hK, e7, hA⟩ hp (fun x x1 x2 x3 => fup_r (by omega)) (fup_a (by omega)), ⟨by dsimp only; rw [fup_a (by omega)]; exact e6, htr⟩, fun i i1 i2 => by
      dsimp only at i2 ⊢
      rw [uC_lo (w := 0) hm hf0 (by omega) (by omega)] at i2
      rw [fup_a (by omega)]
      exact hN i i1 i2, dr_goal hD hm (by omega) hf0 (by omega), dwf_uC (w := 0) (v := 1) hDW hm hm2 hf0 (by omega) (by omega) (by omega) (by omega) (fun _ => by omega) (fun z => by omega)⟩
    simp (disch := first | assumption | omega) only [st_X3_readAccept, ↓if_pos, ↓if_neg, if_pos, if_neg, ↓reduceIte, true_and, and_true, false_and, and_false, true_or, or_true, false_or, or_false, w32_id, Kv, Kn, fup_s, fup_a, fup_k, fup_fup, Int.reduceAdd, Int.reduceSub, Int.reduceMul, Int.reduceNeg, C_isGoal hP hm (show m < 4 by omega), if_neg hb]
    exact hKK
theorem C_readTire {p n j tr m f : Int} {b T : Int → Int} {W : Int → List Int} {nx : Nat} {h r : PF} {s : Int → Int} {Q : PO → PY → Nat → PC → Prop} (hW : WFr r) (hn : 0 ≤ n) (hP : PlOk r p) (hp : 20 < p) (hS : CSt h p b n (j + 1 + 1 + 1, T, W, tr)) (hA2 : Al b n (j + 1 + 1)) (hm : 0 ≤ m) (hm2 : m < T 1) (hf0 : 0 ≤ f) (hf6 : f < gO T m 2) (Kf : ∀ (c e : Int) (h' : PF), pTire b n j T W tr m f = Sum.inl (c, e) → CFr h h' p → h' 2 1 = c → h' 2 2 = e → Q (Sum.inl (some (pI 0))) LY nx (h', r, s)) (Ks : ∀ (S' : PSt) (h' : PF), pTire b n j T W tr m f = Sum.inr S' → CFr h h' p → h' 2 1 = h 2 1 → h' 2 2 = h 2 2 → CSt h' p b n S' → Q (Sum.inl (some (pI 1))) LY nx (h', r, s)) : Wp 31 0 [some (pR 2), some (pR p), some (pI m), some (pI f), none] [] LY nx (h, r, s) Q := by
  obtain ⟨⟨hK, e7, hA⟩, ⟨e6, htr⟩, hN, hD, hDW⟩ := hS
  dsimp only at e7 hA e6 htr hN hD hDW
  have hP00 := hP
  obtain ⟨⟨hp0, hpk⟩, ⟨hpr5, hpp5, hpd5⟩, ⟨hpr6, hpp6, hpd6⟩, ⟨hpr7, hpp7, hpd7⟩, ⟨hpr8, hpp8, hpd8⟩, ⟨hpr9, hpp9, hpd9⟩, ⟨hpr10, hpp10, hpd10⟩⟩ := hP00
  have hT1 := hDW.2.1
  have h6 := (hDW.2.2.2.2.2 m hm (by omega)).1 hm2
  have hjr := (toks_at hn hK hA).1
  have hd := hD.2 m hm (by omega)
  have hdf := (hd.2 f hf0 (by omega)).1.2
  have ej : j + 1 + 1 + 1 - 1 = j + 1 + 1 := by omega
  have a2 := (hDW.2.2.2.2.1 (4 + 40 * m + (4 + 6 * f + 1)) (by omega) (by omega)).1
  have a3 : gS T m f 1 = T (4 + 40 * m + (4 + 6 * f + 1)) := rfl
  by_cases hg : gS T m f 1 = 0
  · rw [if_pos hg] at hdf
    simp (disch := first | assumption | omega) only [st_X3_readTire, ↓if_pos, ↓if_neg, if_pos, if_neg, ↓reduceIte, true_and, and_true, false_and, and_false, true_or, or_true, false_or, or_false, w32_id, Kv, Kn, fup_s, fup_a, fup_k, fup_fup, Int.reduceAdd, Int.reduceSub, Int.reduceMul, Int.reduceNeg, hdf]
    refine C_takeNumber hW hn ⟨hK, e7, hA⟩ (by omega) (fun c e h' q1 q2 q3 q4 q5 => ?_) (fun a h1 q1 q2 q2k q3 q4 q5 hC2 => ?_)
    · have ff : CFr h h' p := ⟨fun x x1 x2 x3 => q2 x x1, q3 0 (by omega) (by omega)⟩
      simp (disch := first | assumption | omega) only [st_X3_readTire, ↓if_pos, ↓if_neg, if_pos, if_neg, ↓reduceIte, true_and, and_true, false_and, and_false, true_or, or_true, false_or, or_false, w32_id, Kv, Kn, fup_s, fup_a, fup_k, fup_fup, Int.reduceAdd, Int.reduceSub, Int.reduceMul, Int.reduceNeg]
      exact Kf c e h' (by unfold pTire; rw [if_neg (fun z => z hg), q1]) ff q4 q5
    · have hD1 : DRel h1 p T := dr_fr (fun x x1 x2 => q3 x (by omega)) hD
      have hKK := Ks _ (fup h1 (p + 5) (m * 6 + f) a) (by unfold pTire; rw [if_neg (fun z => z hg), q1]) ⟨fun x x1 x2 x3 => by rw [fup_r (by omega), q3 x x1], by rw [fup_a (by omega), q4 0 (by omega) (by omega)]⟩ (by rw [fup_a (by omega), q4 1 (by omega) (by omega)]) (by rw [fup_a (by omega), q4 2 (by omega) (by omega)]) ⟨ci_fr hC2 hp (fun x x1 x2 x3 => fup_r (by omega)) (fup_a (by omega)), ⟨by dsimp only; rw [fup_a (by omega), q4 6 (by omega) (by omega)]; exact e6, htr⟩, fun i i1 i2 => by
        dsimp only at i2 ⊢
        rw [uC_lo (w := 1) hm hf0 (by omega) (by omega)] at i2
        rw [fup_a (by omega), q3 8 (by omega)]
        exact hN i i1 i2, dr_time (v := a) hD1 hm (by omega) hf0 (by omega) (by omega), dwf_uC (w := 1) (v := a) hDW hm hm2 hf0 (by omega) (by omega) (by omega) (by omega) (fun z => by omega) (fun z => by omega)⟩
      simp (disch := first | assumption | omega) only [st_X3_readTire, ↓if_pos, ↓if_neg, if_pos, if_neg, ↓reduceIte, true_and, and_true, false_and, and_false, true_or, or_true, false_or, or_false, w32_id, Kv, Kn, fup_s, fup_a, fup_k, fup_fup, Int.reduceAdd, Int.reduceSub, Int.reduceMul, Int.reduceNeg, q5]
      exact hKK
  · rw [if_neg hg] at hdf
    have hne : gS T m f 1 ≠ -1 := by omega
    have hKK := Kf 2 (ss b n (j + 1 + 1)) (fup (fup h 2 1 2) 2 2 (ss b n (j + 1 + 1))) (by unfold pTire; rw [if_pos hg]) ⟨fun x x1 x2 x3 => by rw [fup_r x1, fup_r x1], by rw [fup_k (by omega), fup_k (by omega)]⟩ (by rw [fup_k (by omega), fup_s]) (by rw [fup_s])
    simp (disch := first | assumption | omega) only [st_X3_readTire, ↓if_pos, ↓if_neg, if_pos, if_neg, ↓reduceIte, true_and, and_true, false_and, and_false, true_or, or_true, false_or, or_false, w32_id, Kv, Kn, fup_s, fup_a, fup_k, fup_fup, Int.reduceAdd, Int.reduceSub, Int.reduceMul, Int.reduceNeg, hdf, e7, ej, S_failC hW hn hK hA2]
    exact hKK
theorem C_takeLetter {n j c p : Int} {b : Int → Int} {nx : Nat} {h r : PF} {s : Int → Int} {Q : PO → PY → Nat → PC → Prop} (hW : WFr r) (hn : 0 ≤ n) (hP : PlOk r p) (hC : CI h b n j) (e0 : h p 0 = c) (hc1 : 1 ≤ c) (hc4 : c ≤ 4) (Kf : ∀ (c' e : Int) (h' : PF), (kk b n j ≠ 1 ∧ c' = 1 ∨ kk b n j = 1 ∧ ¬ (0 ≤ lt1 (ww b n j) ∧ lt1 (ww b n j) < c) ∧ c' = 3) → e = ss b n j → (∀ a, a ≠ 2 → h' a = h a) → (∀ k, k ≠ 1 → k ≠ 2 → h' 2 k = h 2 k) → h' 2 1 = c' → h' 2 2 = e → Q (Sum.inl (some (pI 0))) LY nx (h', r, s)) (Ks : ∀ (h' : PF), kk b n j = 1 → (0 ≤ lt1 (ww b n j) ∧ lt1 (ww b n j) < c) → (∀ a, a ≠ 2 → h' a = h a) → (∀ k, k ≠ 7 → k ≠ 8 → h' 2 k = h 2 k) → h' 2 8 = lt1 (ww b n j) → CI h' b n (j + 1) → Q (Sum.inl (some (pI 1))) LY nx (h', r, s)) : Wp 37 0 [some (pR 2), some (pR p), none, none] [] LY nx (h, r, s) Q := by
  obtain ⟨hK, e7, hA⟩ := hC
  have hP0 := hP.1.1
  have hPk := hP.1.2
  have hjr := (toks_at hn hK hA).1
  by_cases hk : kk b n j = 1
  · have hw := ww_ok hn hk
    have hl := lt1_N32 hc4 _ hw.1 hw.2.1
    have hb12 := hw.2.2.1
    have h64 : w64 (N32 (ww b n j) - 1) = N32 (ww b n j) - 1 := w64_id (by omega) (by omega)
    by_cases hin : N32 (ww b n j) - 1 < c
    · have el := hl.2.2 hin
      have hi2 := hl.2.1.mp hin
      have hKK := Ks (fup (fup h 2 8 (lt1 (ww b n j))) 2 7 (j + 1)) hk hi2 (fun a ha => by rw [fup_r ha, fup_r ha]) (fun k h1 h2 => by rw [fup_k h1, fup_k h2]) (by rw [fup_k (by omega), fup_s]) ⟨toks_fr hK (by rw [fup_a (by omega), fup_a (by omega)]) (by rw [fup_r (by omega), fup_r (by omega)]) (by rw [fup_r (by omega), fup_r (by omega)]) (by rw [fup_r (by omega), fup_r (by omega)]), by rw [fup_s], al_s hA (by omega)⟩
      rw [← el] at hKK
      simp (disch := first | assumption | omega) only [st_X3_takeLetter, ↓if_pos, ↓if_neg, if_pos, if_neg, ↓reduceIte, true_and, and_true, false_and, and_false, true_or, or_true, false_or, or_false, w32_id, Kv, Kn, fup_s, fup_a, fup_k, fup_fup, Int.reduceAdd, Int.reduceSub, Int.reduceMul, Int.reduceNeg, e7, e0, S_kind hW hn hK hA, hk, S_value1 hW hn hK hA hk, h64, plcmp_lt]
      exact hKK
    · have hKK := Kf 3 (ss b n j) (fup (fup h 2 1 3) 2 2 (ss b n j)) (Or.inr ⟨hk, fun z => hin (hl.2.1.mpr z), rfl⟩) rfl (fun a ha => by rw [fup_r ha, fup_r ha]) (fun k h1 h2 => by rw [fup_k h2, fup_k h1]) (by rw [fup_k (by omega), fup_s]) (by rw [fup_s])
      by_cases heq : N32 (ww b n j) - 1 = c
      · skip
        simp (disch := first | assumption | omega) only [st_X3_takeLetter, ↓if_pos, ↓if_neg, if_pos, if_neg, ↓reduceIte, true_and, and_true, false_and, and_false, true_or, or_true, false_or, or_false, w32_id, Kv, Kn, fup_s, fup_a, fup_k, fup_fup, Int.reduceAdd, Int.reduceSub, Int.reduceMul, Int.reduceNeg, e7, e0, S_kind hW hn hK hA, hk, S_value1 hW hn hK hA hk, h64, plcmp_eq, S_failC hW hn hK hA]
        exact hKK
      · skip
        simp (disch := first | assumption | omega) only [st_X3_takeLetter, ↓if_pos, ↓if_neg, if_pos, if_neg, ↓reduceIte, true_and, and_true, false_and, and_false, true_or, or_true, false_or, or_false, w32_id, Kv, Kn, fup_s, fup_a, fup_k, fup_fup, Int.reduceAdd, Int.reduceSub, Int.reduceMul, Int.reduceNeg, e7, e0, S_kind hW hn hK hA, hk, S_value1 hW hn hK hA hk, h64, plcmp_gt, S_failC hW hn hK hA]
        exact hKK
  · have hKK := Kf 1 (ss b n j) (fup (fup h 2 1 1) 2 2 (ss b n j)) (Or.inl ⟨hk, rfl⟩) rfl (fun a ha => by rw [fup_r ha, fup_r ha]) (fun k h1 h2 => by rw [fup_k h2, fup_k h1]) (by rw [fup_k (by omega), fup_s]) (by rw [fup_s])
    simp (disch := first | assumption | omega) only [st_X3_takeLetter, ↓if_pos, ↓if_neg, if_pos, if_neg, ↓reduceIte, true_and, and_true, false_and, and_false, true_or, or_true, false_or, or_false, w32_id, Kv, Kn, fup_s, fup_a, fup_k, fup_fup, Int.reduceAdd, Int.reduceSub, Int.reduceMul, Int.reduceNeg, e7, S_kind hW hn hK hA, S_failC hW hn hK hA]
    exact hKK
theorem C_setTarget {p m f l v : Int} {nx : Nat} {h r : PF} {s : Int → Int} {Q : PO → PY → Nat → PC → Prop} (hP : PlOk r p) (hm : 0 ≤ m) (hm2 : m < 4) (hf0 : 0 ≤ f) (hf6 : f < 6) (hl : 0 ≤ l) (hl2 : l < 4) : Wp 21 0 [some (pR p), some (pI m), some (pI f), some (pI l), some (pI v)] [] LY nx (h, r, s) Q ↔ Q (Sum.inl none) LY nx (fup h (p + 6) ((m * 6 + f) * 4 + l) v, r, s) := by
  obtain ⟨⟨hp0, hpk⟩, ⟨hpr5, hpp5, hpd5⟩, ⟨hpr6, hpp6, hpd6⟩, ⟨hpr7, hpp7, hpd7⟩, ⟨hpr8, hpp8, hpd8⟩, ⟨hpr9, hpp9, hpd9⟩, ⟨hpr10, hpp10, hpd10⟩⟩ := hP
  simp (disch := first | assumption | omega) only [st_X2_setTarget, ↓if_pos, ↓if_neg, if_pos, if_neg, ↓reduceIte, true_and, and_true, false_and, and_false, true_or, or_true, false_or, or_false, w32_id, Kv, Kn, fup_s, fup_a, fup_k, fup_fup, Int.reduceAdd, Int.reduceSub, Int.reduceMul, Int.reduceNeg]
theorem C_readGo {p n j tr m f : Int} {b T : Int → Int} {W : Int → List Int} {nx : Nat} {h r : PF} {s : Int → Int} {Q : PO → PY → Nat → PC → Prop} (hW : WFr r) (hn : 0 ≤ n) (hP : PlOk r p) (hp : 20 < p) (hS : CSt h p b n (j + 1 + 1 + 1, T, W, tr)) (hm : 0 ≤ m) (hm2 : m < T 1) (hf0 : 0 ≤ f) (hf6 : f < gO T m 2) (Kf : ∀ (c e : Int) (h' : PF), pGo b n j T W tr m f = Sum.inl (c, e) → CFr h h' p → h' 2 1 = c → h' 2 2 = e → Q (Sum.inl (some (pI 0))) LY nx (h', r, s)) (Ks : ∀ (S' : PSt) (h' : PF), pGo b n j T W tr m f = Sum.inr S' → CFr h h' p → h' 2 1 = h 2 1 → h' 2 2 = h 2 2 → CSt h' p b n S' → Q (Sum.inl (some (pI 1))) LY nx (h', r, s)) : Wp 29 0 [some (pR 2), some (pR p), some (pI m), some (pI f), none] [] LY nx (h, r, s) Q := by
  obtain ⟨⟨hK, e7, hA⟩, ⟨e6, htr⟩, hN, hD, hDW⟩ := hS
  dsimp only at e7 hA e6 htr hN hD hDW
  have hP00 := hP
  obtain ⟨⟨hp0, hpk⟩, ⟨hpr5, hpp5, hpd5⟩, ⟨hpr6, hpp6, hpd6⟩, ⟨hpr7, hpp7, hpd7⟩, ⟨hpr8, hpp8, hpd8⟩, ⟨hpr9, hpp9, hpd9⟩, ⟨hpr10, hpp10, hpd10⟩⟩ := hP00
  have hT0 := hDW.1
  have hT1 := hDW.2.1
  have h6 := (hDW.2.2.2.2.2 m hm (by omega)).1 hm2
  simp (disch := first | assumption | omega) only [st_X3_readGo, ↓if_pos, ↓if_neg, if_pos, if_neg, ↓reduceIte, true_and, and_true, false_and, and_false, true_or, or_true, false_or, or_false, w32_id, Kv, Kn, fup_s, fup_a, fup_k, fup_fup, Int.reduceAdd, Int.reduceSub, Int.reduceMul, Int.reduceNeg]
  refine C_takeLetter hW hn hP ⟨hK, e7, hA⟩ hD.1.1 hDW.1.1 hDW.1.2 (fun c e h' q1 q2 q3 q4 q5 q6 => ?_) (fun h1 q1 q2 q3 q4 q5 hC2 => ?_)
  · have ff : CFr h h' p := ⟨fun x x1 x2 x3 => q3 x x1, q4 0 (by omega) (by omega)⟩
    simp (disch := first | assumption | omega) only [st_X3_readGo, ↓if_pos, ↓if_neg, if_pos, if_neg, ↓reduceIte, true_and, and_true, false_and, and_false, true_or, or_true, false_or, or_false, w32_id, Kv, Kn, fup_s, fup_a, fup_k, fup_fup, Int.reduceAdd, Int.reduceSub, Int.reduceMul, Int.reduceNeg]
    refine Kf c e h' ?_ ff q5 q6
    unfold pGo
    rw [q2]
    rcases q1 with z | z
    · rw [if_pos z.1, z.2]
    · rw [if_neg (fun y => y z.1), if_pos z.2.1, z.2.2]
  · have f1 : CFr h h1 p := ⟨fun x x1 x2 x3 => q3 x x1, q4 0 (by omega) (by omega)⟩
    have hD1 : DRel h1 p T := dr_fr (fun x x1 x2 => q3 x (by omega)) hD
    obtain ⟨hK1, e71, hA1⟩ := hC2
    have hjr := (toks_at hn hK1 hA1).1
    have ej : j + 1 + 1 + 1 + 1 - 1 = j + 1 + 1 + 1 := by omega
    have hpg : ∀ X : PRs, (if gS T m f (2 + lt1 (ww b n (j + 1 + 1 + 1))) ≠ 0 then Sum.inl (2, ss b n (j + 1 + 1 + 1)) else match pNum b n 0 (gO T m 2 - 1) (j + 1 + 1 + 1 + 1) with
      | Sum.inl e => Sum.inl e
      | Sum.inr t => Sum.inr (j + 1 + 1 + 1 + 1 + 1, uC T m f (2 + lt1 (ww b n (j + 1 + 1 + 1))) (t + 1), W, tr)) = X → pGo b n j T W tr m f = X := fun X z => by
      unfold pGo
      rw [if_neg (fun y => y q1), if_neg (fun y => y q2)]
      exact z
    generalize hl : lt1 (ww b n (j + 1 + 1 + 1)) = l at *
    have htg : h1 (p + 6) ((m * 6 + f) * 4 + l) = gGo T m f l := (((hD1.2 m hm (by omega)).2 f hf0 (by omega)).2 l q2.1 (by omega))
    have a2 := (hDW.2.2.2.2.1 (4 + 40 * m + (4 + 6 * f + (2 + l))) (by omega) (by omega)).1
    have a3 : gS T m f (2 + l) = T (4 + 40 * m + (4 + 6 * f + (2 + l))) := rfl
    have a4 : gGo T m f l = gS T m f (2 + l) - 1 := rfl
    have hst : h1 (p + 3) m = gO T m 2 := ((hD1.2 m hm (by omega)).1.1 hm2).2.2
    by_cases hg : gS T m f (2 + l) = 0
    · have hg1 : gGo T m f l = -1 := by omega
      simp (disch := first | assumption | omega) only [st_X3_readGo, ↓if_pos, ↓if_neg, if_pos, if_neg, ↓reduceIte, true_and, and_true, false_and, and_false, true_or, or_true, false_or, or_false, w32_id, Kv, Kn, fup_s, fup_a, fup_k, fup_fup, Int.reduceAdd, Int.reduceSub, Int.reduceMul, Int.reduceNeg, q5, C_target hP hm (show m < 4 by omega) hf0 (show f < 6 by omega) q2.1 (show l < 4 by omega), htg, hg1, hst]
      refine C_takeNumber hW hn ⟨hK1, e71, hA1⟩ (by omega) (fun c e h' w1 w2 w3 w4 w5 => ?_) (fun v h2 w1 w2 w2k w3 w4 w5 hC4 => ?_)
      · have ff : CFr h h' p := cfr_t f1 ⟨fun x x1 x2 x3 => w2 x x1, w3 0 (by omega) (by omega)⟩
        simp (disch := first | assumption | omega) only [st_X3_readGo, ↓if_pos, ↓if_neg, if_pos, if_neg, ↓reduceIte, true_and, and_true, false_and, and_false, true_or, or_true, false_or, or_false, w32_id, Kv, Kn, fup_s, fup_a, fup_k, fup_fup, Int.reduceAdd, Int.reduceSub, Int.reduceMul, Int.reduceNeg]
        exact Kf c e h' (hpg _ (by rw [if_neg (fun z => z hg), w1])) ff w4 w5
      · have hD2 : DRel h2 p T := dr_fr (fun x x1 x2 => w3 x (by omega)) hD1
        have hKK := Ks _ (fup h2 (p + 6) ((m * 6 + f) * 4 + l) v) (hpg _ (by rw [if_neg (fun z => z hg), w1])) (cfr_t f1 ⟨fun x x1 x2 x3 => by rw [fup_r (by omega), w3 x x1], by rw [fup_a (by omega), w4 0 (by omega) (by omega)]⟩) (by rw [fup_a (by omega), w4 1 (by omega) (by omega), q4 1 (by omega) (by omega)]) (by rw [fup_a (by omega), w4 2 (by omega) (by omega), q4 2 (by omega) (by omega)]) ⟨ci_fr hC4 hp (fun x x1 x2 x3 => fup_r (by omega)) (fup_a (by omega)), ⟨by dsimp only; rw [fup_a (by omega), w4 6 (by omega) (by omega), q4 6 (by omega) (by omega)]; exact e6, htr⟩, fun i i1 i2 => by
          dsimp only at i2 ⊢
          rw [uC_lo (w := 2 + l) hm hf0 (by omega) (by omega)] at i2
          rw [fup_a (by omega), w3 8 (by omega), q3 8 (by omega)]
          exact hN i i1 i2, dr_targ hD2 hm (by omega) hf0 (by omega) q2.1 (by omega), dwf_uC (w := 2 + l) (v := v + 1) hDW hm hm2 hf0 (by omega) (by omega) (by omega) (by omega) (fun z => by omega) (fun z => by omega)⟩
        simp (disch := first | assumption | omega) only [st_X3_readGo, ↓if_pos, ↓if_neg, if_pos, if_neg, ↓reduceIte, true_and, and_true, false_and, and_false, true_or, or_true, false_or, or_false, w32_id, Kv, Kn, fup_s, fup_a, fup_k, fup_fup, Int.reduceAdd, Int.reduceSub, Int.reduceMul, Int.reduceNeg, w5, C_setTarget hP hm (show m < 4 by omega) hf0 (show f < 6 by omega) q2.1 (show l < 4 by omega)]
        exact hKK
    · have hg1 : gGo T m f l ≠ -1 := by omega
      have hA0 : Al b n (j + 1 + 1 + 1) := hA
      have hKK := Kf 2 (ss b n (j + 1 + 1 + 1)) (fup (fup h1 2 1 2) 2 2 (ss b n (j + 1 + 1 + 1))) (hpg _ (by rw [if_pos hg])) (cfr_t f1 ⟨fun x x1 x2 x3 => by rw [fup_r x1, fup_r x1], by rw [fup_k (by omega), fup_k (by omega)]⟩) (by rw [fup_k (by omega), fup_s]) (by rw [fup_s])
      simp (disch := first | assumption | omega) only [st_X3_readGo, ↓if_pos, ↓if_neg, if_pos, if_neg, ↓reduceIte, true_and, and_true, false_and, and_false, true_or, or_true, false_or, or_false, w32_id, Kv, Kn, fup_s, fup_a, fup_k, fup_fup, Int.reduceAdd, Int.reduceSub, Int.reduceMul, Int.reduceNeg, q5, C_target hP hm (show m < 4 by omega) hf0 (show f < 6 by omega) q2.1 (show l < 4 by omega), htg, e71, ej, S_failC hW hn hK1 hA0]
      exact hKK
