/-! TEXT, THE CLASS: machines, and the whole -/
theorem C_takeMachine {p n j : Int} {b T : Int → Int} {W : Int → List Int} {nx : Nat} {h r : PF} {s : Int → Int} {Q : PO → PY → Nat → PC → Prop} (hW : WFr r) (hn : 0 ≤ n) (hP : PlOk r p) (hC : CI h b n j) (e1 : h p 1 = T 1) (hT1 : 0 ≤ T 1 ∧ T 1 ≤ 4) (hN : ∀ i, 0 ≤ i → i < T 1 → h 8 i = N32 (W i) ∧ Dg (W i)) (Kf : ∀ (c' e : Int) (h' : PF), (kk b n j ≠ 1 ∧ c' = 1 ∨ kk b n j = 1 ∧ gNm W (ww b n j) (T 1) = -1 ∧ c' = 4) → e = ss b n j → (∀ a, a ≠ 2 → h' a = h a) → (∀ k, k ≠ 1 → k ≠ 2 → h' 2 k = h 2 k) → h' 2 1 = c' → h' 2 2 = e → Q (Sum.inl (some (pI 0))) LY nx (h', r, s)) (Ks : ∀ (h' : PF), kk b n j = 1 → (0 ≤ gNm W (ww b n j) (T 1) ∧ gNm W (ww b n j) (T 1) < T 1) → (∀ a, a ≠ 2 → h' a = h a) → (∀ k, k ≠ 7 → k ≠ 8 → h' 2 k = h 2 k) → h' 2 8 = gNm W (ww b n j) (T 1) → CI h' b n (j + 1) → Q (Sum.inl (some (pI 1))) LY nx (h', r, s)) : Wp 36 0 [some (pR 2), some (pR p), none] [] LY nx (h, r, s) Q := by
  obtain ⟨hK, e7, hA⟩ := hC
  have hP0 := hP.1.1
  have hPk := hP.1.2
  have hjr := (toks_at hn hK hA).1
  by_cases hk : kk b n j = 1
  · have hw := ww_ok hn hk
    have hg := gNm_rng (W := W) (x := ww b n j) hT1.1
    by_cases hz : gNm W (ww b n j) (T 1) = -1
    · have hKK := Kf 4 (ss b n j) (fup (fup h 2 1 4) 2 2 (ss b n j)) (Or.inr ⟨hk, hz, rfl⟩) rfl (fun a ha => by rw [fup_r ha, fup_r ha]) (fun k h1 h2 => by rw [fup_k h2, fup_k h1]) (by rw [fup_k (by omega), fup_s]) (by rw [fup_s])
      simp (disch := first | assumption | omega) only [st_X3_takeMachine, ↓if_pos, ↓if_neg, if_pos, if_neg, ↓reduceIte, true_and, and_true, false_and, and_false, true_or, or_true, false_or, or_false, w32_id, Kv, Kn, fup_s, fup_a, fup_k, fup_fup, Int.reduceAdd, Int.reduceSub, Int.reduceMul, Int.reduceNeg, e7, e1, S_kind hW hn hK hA, hk, S_value1 hW hn hK hA hk, S_indexOf hW hT1.1 hT1.2 hw.1 hN, hz, S_failC hW hn hK hA]
      exact hKK
    · have hg2 : 0 ≤ gNm W (ww b n j) (T 1) ∧ gNm W (ww b n j) (T 1) < T 1 := by omega
      have hKK := Ks (fup (fup h 2 8 (gNm W (ww b n j) (T 1))) 2 7 (j + 1)) hk hg2 (fun a ha => by rw [fup_r ha, fup_r ha]) (fun k h1 h2 => by rw [fup_k h1, fup_k h2]) (by rw [fup_k (by omega), fup_s]) ⟨toks_fr hK (by rw [fup_a (by omega), fup_a (by omega)]) (by rw [fup_r (by omega), fup_r (by omega)]) (by rw [fup_r (by omega), fup_r (by omega)]) (by rw [fup_r (by omega), fup_r (by omega)]), by rw [fup_s], al_s hA (by omega)⟩
      simp (disch := first | assumption | omega) only [st_X3_takeMachine, ↓if_pos, ↓if_neg, if_pos, if_neg, ↓reduceIte, true_and, and_true, false_and, and_false, true_or, or_true, false_or, or_false, w32_id, Kv, Kn, fup_s, fup_a, fup_k, fup_fup, Int.reduceAdd, Int.reduceSub, Int.reduceMul, Int.reduceNeg, e7, e1, S_kind hW hn hK hA, hk, S_value1 hW hn hK hA hk, S_indexOf hW hT1.1 hT1.2 hw.1 hN]
      exact hKK
  · have hKK := Kf 1 (ss b n j) (fup (fup h 2 1 1) 2 2 (ss b n j)) (Or.inl ⟨hk, rfl⟩) rfl (fun a ha => by rw [fup_r ha, fup_r ha]) (fun k h1 h2 => by rw [fup_k h2, fup_k h1]) (by rw [fup_k (by omega), fup_s]) (by rw [fup_s])
    simp (disch := first | assumption | omega) only [st_X3_takeMachine, ↓if_pos, ↓if_neg, if_pos, if_neg, ↓reduceIte, true_and, and_true, false_and, and_false, true_or, or_true, false_or, or_false, w32_id, Kv, Kn, fup_s, fup_a, fup_k, fup_fup, Int.reduceAdd, Int.reduceSub, Int.reduceMul, Int.reduceNeg, e7, S_kind hW hn hK hA, S_failC hW hn hK hA]
    exact hKK
theorem C_takeNewName {n j m : Int} {b : Int → Int} {W : Int → List Int} {nx : Nat} {h r : PF} {s : Int → Int} {Q : PO → PY → Nat → PC → Prop} (hW : WFr r) (hn : 0 ≤ n) (hC : CI h b n j) (hm : 0 ≤ m) (hm4 : m < 4) (hN : ∀ i, 0 ≤ i → i < m → h 8 i = N32 (W i) ∧ Dg (W i)) (Kf : ∀ (c' e : Int) (h' : PF), (kk b n j ≠ 1 ∧ c' = 1 ∨ kk b n j = 1 ∧ gNm W (ww b n j) m ≠ -1 ∧ c' = 2) → e = ss b n j → (∀ a, a ≠ 2 → h' a = h a) → (∀ k, k ≠ 1 → k ≠ 2 → h' 2 k = h 2 k) → h' 2 1 = c' → h' 2 2 = e → Q (Sum.inl (some (pI 0))) LY nx (h', r, s)) (Ks : ∀ (h' : PF), kk b n j = 1 → gNm W (ww b n j) m = -1 → (∀ a, a ≠ 2 → a ≠ 8 → h' a = h a) → (∀ k, k ≠ 7 → h' 2 k = h 2 k) → (∀ i, 0 ≤ i → i < m + 1 → h' 8 i = N32 (upW W m (ww b n j) i) ∧ Dg (upW W m (ww b n j) i)) → CI h' b n (j + 1) → Q (Sum.inl (some (pI 1))) LY nx (h', r, s)) : Wp 35 0 [some (pR 2), some (pI m), none, none] [] LY nx (h, r, s) Q := by
  obtain ⟨hK, e7, hA⟩ := hC
  have hjr := (toks_at hn hK hA).1
  by_cases hk : kk b n j = 1
  · have hw := ww_ok hn hk
    by_cases hz : gNm W (ww b n j) m = -1
    · have hKK := Ks (fup (fup h 8 m (N32 (ww b n j))) 2 7 (j + 1)) hk hz (fun a a1 a2 => by rw [fup_r a1, fup_r a2]) (fun k h1 => by rw [fup_k h1, fup_a (by omega)]) (fun i i1 i2 => by
        rw [fup_a (by omega)]
        unfold upW
        by_cases hi : i = m
        · rw [if_pos hi, hi, fup_s]; exact ⟨rfl, hw.1⟩
        · rw [if_neg hi, fup_k hi]; exact hN i i1 (by omega)) ⟨toks_fr hK (by rw [fup_a (by omega), fup_a (by omega)]) (by rw [fup_r (by omega), fup_r (by omega)]) (by rw [fup_r (by omega), fup_r (by omega)]) (by rw [fup_r (by omega), fup_r (by omega)]), by rw [fup_s], al_s hA (by omega)⟩
      simp (disch := first | assumption | omega) only [st_X3_takeNewName, ↓if_pos, ↓if_neg, if_pos, if_neg, ↓reduceIte, true_and, and_true, false_and, and_false, true_or, or_true, false_or, or_false, w32_id, Kv, Kn, fup_s, fup_a, fup_k, fup_fup, Int.reduceAdd, Int.reduceSub, Int.reduceMul, Int.reduceNeg, e7, S_kind hW hn hK hA, hk, S_value1 hW hn hK hA hk, S_indexOf hW hm (show m ≤ 4 by omega) hw.1 hN, hz]
      exact hKK
    · have hKK := Kf 2 (ss b n j) (fup (fup h 2 1 2) 2 2 (ss b n j)) (Or.inr ⟨hk, hz, rfl⟩) rfl (fun a ha => by rw [fup_r ha, fup_r ha]) (fun k h1 h2 => by rw [fup_k h2, fup_k h1]) (by rw [fup_k (by omega), fup_s]) (by rw [fup_s])
      simp (disch := first | assumption | omega) only [st_X3_takeNewName, ↓if_pos, ↓if_neg, if_pos, if_neg, ↓reduceIte, true_and, and_true, false_and, and_false, true_or, or_true, false_or, or_false, w32_id, Kv, Kn, fup_s, fup_a, fup_k, fup_fup, Int.reduceAdd, Int.reduceSub, Int.reduceMul, Int.reduceNeg, e7, S_kind hW hn hK hA, hk, S_value1 hW hn hK hA hk, S_indexOf hW hm (show m ≤ 4 by omega) hw.1 hN, S_failC hW hn hK hA]
      exact hKK
  · have hKK := Kf 1 (ss b n j) (fup (fup h 2 1 1) 2 2 (ss b n j)) (Or.inl ⟨hk, rfl⟩) rfl (fun a ha => by rw [fup_r ha, fup_r ha]) (fun k h1 h2 => by rw [fup_k h2, fup_k h1]) (by rw [fup_k (by omega), fup_s]) (by rw [fup_s])
    simp (disch := first | assumption | omega) only [st_X3_takeNewName, ↓if_pos, ↓if_neg, if_pos, if_neg, ↓reduceIte, true_and, and_true, false_and, and_false, true_or, or_true, false_or, or_false, w32_id, Kv, Kn, fup_s, fup_a, fup_k, fup_fup, Int.reduceAdd, Int.reduceSub, Int.reduceMul, Int.reduceNeg, e7, S_kind hW hn hK hA, S_failC hW hn hK hA]
    exact hKK
theorem key_01 (b : Int → Int) (n j a : Int) : ∃ x : Int, x = 1 ∧ isK b n j a ∨ x = 0 ∧ ¬ isK b n j a := by
  by_cases h : isK b n j a
  · exact ⟨1, Or.inl ⟨rfl, h⟩⟩
  · exact ⟨0, Or.inr ⟨rfl, h⟩⟩
theorem C_readMachine {p n j tr : Int} {b T : Int → Int} {W : Int → List Int} {nx : Nat} {h r : PF} {s : Int → Int} {Q : PO → PY → Nat → PC → Prop} (hW : WFr r) (hn : 0 ≤ n) (hP : PlOk r p) (hp : 20 < p) (hS : CSt h p b n (j, T, W, tr)) (hk : kk b n j ≠ 0) (Kf : ∀ (c e : Int) (h' : PF), pMach b n j T W tr = Sum.inl (c, e) → CFr h h' p → h' 2 1 = c → h' 2 2 = e → Q (Sum.inl (some (pI 0))) LY nx (h', r, s)) (Ks : ∀ (S' : PSt) (h' : PF), pMach b n j T W tr = Sum.inr S' → CFr h h' p → h' 2 1 = h 2 1 → h' 2 2 = h 2 2 → CSt h' p b n S' → Q (Sum.inl (some (pI 1))) LY nx (h', r, s)) : Wp 28 0 [some (pR 2), some (pR p), none] [] LY nx (h, r, s) Q := by
  obtain ⟨⟨hK, e7, hA⟩, ⟨e6, htr⟩, hN, hD, hDW⟩ := hS
  dsimp only at e7 hA e6 htr hN hD hDW
  have hP00 := hP
  obtain ⟨⟨hp0, hpk⟩, ⟨hpr5, hpp5, hpd5⟩, ⟨hpr6, hpp6, hpd6⟩, ⟨hpr7, hpp7, hpd7⟩, ⟨hpr8, hpp8, hpd8⟩, ⟨hpr9, hpp9, hpd9⟩, ⟨hpr10, hpp10, hpd10⟩⟩ := hP00
  have hT1 := hDW.2.1
  have hjr := (toks_at hn hK hA).1
  have ep1 := hD.1.2.1
  by_cases h4 : 4 ≤ T 1
  · have hKK := Kf 5 (ss b n j) (fup (fup h 2 1 5) 2 2 (ss b n j)) (by unfold pMach; rw [if_pos h4]) ⟨fun x x1 x2 x3 => by rw [fup_r x1, fup_r x1], by rw [fup_k (by omega), fup_k (by omega)]⟩ (by rw [fup_k (by omega), fup_s]) (by rw [fup_s])
    simp (disch := first | assumption | omega) only [st_X3_readMachine_0, st_X3_readMachine_1, ↓if_pos, ↓if_neg, if_pos, if_neg, ↓reduceIte, true_and, and_true, false_and, and_false, true_or, or_true, false_or, or_false, w32_id, Kv, Kn, fup_s, fup_a, fup_k, fup_fup, Int.reduceAdd, Int.reduceSub, Int.reduceMul, Int.reduceNeg, ep1, e7, S_failC hW hn hK hA]
    exact hKK
  · have hm4 : T 1 < 4 := by omega
    have hC1 : CI (fup h 2 7 (j + 1)) b n (j + 1) := ⟨toks_fr hK (fup_a (by omega)) (fup_r (by omega)) (fup_r (by omega)) (fup_r (by omega)), by rw [fup_s], al_s hA hk⟩
    simp (disch := first | assumption | omega) only [st_X3_readMachine_0, st_X3_readMachine_1, ↓if_pos, ↓if_neg, if_pos, if_neg, ↓reduceIte, true_and, and_true, false_and, and_false, true_or, or_true, false_or, or_false, w32_id, Kv, Kn, fup_s, fup_a, fup_k, fup_fup, Int.reduceAdd, Int.reduceSub, Int.reduceMul, Int.reduceNeg, ep1, e7]
    refine C_takeNewName (W := W) hW hn hC1 hT1.1 hm4 (fun i i1 i2 => by rw [fup_a (by omega)]; exact hN i i1 i2) (fun c e h' q1 q2 q3 q4 q5 q6 => ?_) (fun h1 q1 q2 q3 q4 hN1 hC2 => ?_)
    · have ff : CFr h h' p := ⟨fun x x1 x2 x3 => by rw [q3 x x1, fup_r x1], by rw [q4 0 (by omega) (by omega), fup_k (by omega)]⟩
      simp (disch := first | assumption | omega) only [st_X3_readMachine_0, st_X3_readMachine_1, ↓if_pos, ↓if_neg, if_pos, if_neg, ↓reduceIte, true_and, and_true, false_and, and_false, true_or, or_true, false_or, or_false, w32_id, Kv, Kn, fup_s, fup_a, fup_k, fup_fup, Int.reduceAdd, Int.reduceSub, Int.reduceMul, Int.reduceNeg]
      refine Kf c e h' ?_ ff q5 q6
      unfold pMach
      rw [if_neg h4, q2]
      rcases q1 with z | z
      · rw [if_pos z.1, z.2]
      · rw [if_neg (fun y => y z.1), if_pos z.2.1, z.2.2]
    · have f1 : CFr h h1 p := ⟨fun x x1 x2 x3 => by rw [q3 x x1 x2, fup_r x1], by rw [q4 0 (by omega), fup_k (by omega)]⟩
      have hpm : ∀ X : PRs, (match pNum b n 0 999 (j + 1 + 1) with
        | Sum.inl e => Sum.inl e
        | Sum.inr c => match pNum b n 1 9 (j + 1 + 1 + 1) with
          | Sum.inl e => Sum.inl e
          | Sum.inr g => match pNum b n 1 6 (j + 1 + 1 + 1 + 1) with
            | Sum.inl e => Sum.inl e
            | Sum.inr q => Sum.inr (if kk b n (j + 1 + 1 + 1 + 1 + 1) = 1 ∧ ww b n (j + 1 + 1 + 1 + 1 + 1) = kw (-3) then (j + 1 + 1 + 1 + 1 + 1 + 1, uM T c g q 1, upW W (T 1) (ww b n (j + 1)), tr) else (j + 1 + 1 + 1 + 1 + 1, uM T c g q 0, upW W (T 1) (ww b n (j + 1)), tr))) = X → pMach b n j T W tr = X := fun X z => by
        unfold pMach
        rw [if_neg h4, if_neg (fun y => y q1), if_neg (fun y => y q2)]
        exact z
      have r1 : ∀ x, p ≤ x → x ≤ p + 6 → h1 x = h x := fun x x1 x2 => by rw [q3 x (by omega) (by omega), fup_r (by omega)]
      simp (disch := first | assumption | omega) only [st_X3_readMachine_0, st_X3_readMachine_1, ↓if_pos, ↓if_neg, if_pos, if_neg, ↓reduceIte, true_and, and_true, false_and, and_false, true_or, or_true, false_or, or_false, w32_id, Kv, Kn, fup_s, fup_a, fup_k, fup_fup, Int.reduceAdd, Int.reduceSub, Int.reduceMul, Int.reduceNeg]
      refine C_takeNumber hW hn hC2 (by omega) (fun c e h' w1 w2 w3 w4 w5 => ?_) (fun c h2 w1 w2 w2k w3 w4 w5 hC3 => ?_)
      · have ff : CFr h h' p := cfr_t f1 ⟨fun x x1 x2 x3 => w2 x x1, w3 0 (by omega) (by omega)⟩
        simp (disch := first | assumption | omega) only [st_X3_readMachine_0, st_X3_readMachine_1, ↓if_pos, ↓if_neg, if_pos, if_neg, ↓reduceIte, true_and, and_true, false_and, and_false, true_or, or_true, false_or, or_false, w32_id, Kv, Kn, fup_s, fup_a, fup_k, fup_fup, Int.reduceAdd, Int.reduceSub, Int.reduceMul, Int.reduceNeg]
        exact Kf c e h' (hpm _ (by rw [w1])) ff w4 w5
      · have f2 : CFr h (fup h2 (p + 1) (T 1) c) p := cfr_t f1 ⟨fun x x1 x2 x3 => by rw [fup_r (by omega), w3 x x1], by rw [fup_a (by omega), w4 0 (by omega) (by omega)]⟩
        have hC3' : CI (fup h2 (p + 1) (T 1) c) b n (j + 1 + 1 + 1) := ci_fr hC3 (by omega) (fun x x1 x2 x3 => fup_r (by omega)) (fup_a (by omega))
        simp (disch := first | assumption | omega) only [st_X3_readMachine_0, st_X3_readMachine_1, ↓if_pos, ↓if_neg, if_pos, if_neg, ↓reduceIte, true_and, and_true, false_and, and_false, true_or, or_true, false_or, or_false, w32_id, Kv, Kn, fup_s, fup_a, fup_k, fup_fup, Int.reduceAdd, Int.reduceSub, Int.reduceMul, Int.reduceNeg, w5]
        refine C_takeNumber hW hn hC3' (by omega) (fun c e h' u1 u2 u3 u4 u5 => ?_) (fun g h3 u1 u2 u2k u3 u4 u5 hC4 => ?_)
        · have ff : CFr h h' p := cfr_t f2 ⟨fun x x1 x2 x3 => u2 x x1, u3 0 (by omega) (by omega)⟩
          simp (disch := first | assumption | omega) only [st_X3_readMachine_0, st_X3_readMachine_1, ↓if_pos, ↓if_neg, if_pos, if_neg, ↓reduceIte, true_and, and_true, false_and, and_false, true_or, or_true, false_or, or_false, w32_id, Kv, Kn, fup_s, fup_a, fup_k, fup_fup, Int.reduceAdd, Int.reduceSub, Int.reduceMul, Int.reduceNeg]
          exact Kf c e h' (hpm _ (by rw [w1]; dsimp only; rw [u1])) ff u4 u5
        · have f3 : CFr h (fup h3 (p + 2) (T 1) g) p := cfr_t f2 ⟨fun x x1 x2 x3 => by rw [fup_r (by omega), u3 x x1], by rw [fup_a (by omega), u4 0 (by omega) (by omega)]⟩
          have hC4' : CI (fup h3 (p + 2) (T 1) g) b n (j + 1 + 1 + 1 + 1) := ci_fr hC4 (by omega) (fun x x1 x2 x3 => fup_r (by omega)) (fup_a (by omega))
          simp (disch := first | assumption | omega) only [st_X3_readMachine_0, st_X3_readMachine_1, ↓if_pos, ↓if_neg, if_pos, if_neg, ↓reduceIte, true_and, and_true, false_and, and_false, true_or, or_true, false_or, or_false, w32_id, Kv, Kn, fup_s, fup_a, fup_k, fup_fup, Int.reduceAdd, Int.reduceSub, Int.reduceMul, Int.reduceNeg, u5]
          refine C_takeNumber hW hn hC4' (by omega) (fun c e h' t1 t2 t3 t4 t5 => ?_) (fun q h4 t1 t2 t2k t3 t4 t5 hC5 => ?_)
          · have ff : CFr h h' p := cfr_t f3 ⟨fun x x1 x2 x3 => t2 x x1, t3 0 (by omega) (by omega)⟩
            simp (disch := first | assumption | omega) only [st_X3_readMachine_0, st_X3_readMachine_1, ↓if_pos, ↓if_neg, if_pos, if_neg, ↓reduceIte, true_and, and_true, false_and, and_false, true_or, or_true, false_or, or_false, w32_id, Kv, Kn, fup_s, fup_a, fup_k, fup_fup, Int.reduceAdd, Int.reduceSub, Int.reduceMul, Int.reduceNeg]
            exact Kf c e h' (hpm _ (by rw [w1]; dsimp only; rw [u1]; dsimp only; rw [t1])) ff t4 t5
          · have f4 : CFr h (fup h4 (p + 3) (T 1) q) p := cfr_t f3 ⟨fun x x1 x2 x3 => by rw [fup_r (by omega), t3 x x1], by rw [fup_a (by omega), t4 0 (by omega) (by omega)]⟩
            have hC5' : CI (fup h4 (p + 3) (T 1) q) b n (j + 1 + 1 + 1 + 1 + 1) := ci_fr hC5 (by omega) (fun x x1 x2 x3 => fup_r (by omega)) (fup_a (by omega))
            have rr0 : ∀ k, fup h4 (p + 3) (T 1) q p k = h p k := fun k => by rw [fup_a (by omega), t3 p (by omega), fup_a (by omega), u3 p (by omega), fup_a (by omega), w3 p (by omega), r1 p (by omega) (by omega)]
            have rr1 : fup h4 (p + 3) (T 1) q (p + 1) = up1 (h (p + 1)) (T 1) c := by rw [fup_r (by omega), t3 (p + 1) (by omega), fup_r (by omega), u3 (p + 1) (by omega), fup_self, w3 (p + 1) (by omega), r1 (p + 1) (by omega) (by omega)]
            have rr2 : fup h4 (p + 3) (T 1) q (p + 2) = up1 (h (p + 2)) (T 1) g := by rw [fup_r (by omega), t3 (p + 2) (by omega), fup_self, u3 (p + 2) (by omega), fup_r (by omega), w3 (p + 2) (by omega), r1 (p + 2) (by omega) (by omega)]
            have rr3 : fup h4 (p + 3) (T 1) q (p + 3) = up1 (h (p + 3)) (T 1) q := by rw [fup_self, t3 (p + 3) (by omega), fup_r (by omega), u3 (p + 3) (by omega), fup_r (by omega), w3 (p + 3) (by omega), r1 (p + 3) (by omega) (by omega)]
            have rr4 : ∀ x, p + 4 ≤ x → x ≤ p + 6 → fup h4 (p + 3) (T 1) q x = h x := fun x x1 x2 => by rw [fup_r (by omega), t3 x (by omega), fup_r (by omega), u3 x (by omega), fup_r (by omega), w3 x (by omega), r1 x (by omega) (by omega)]
            have k2 : ∀ k, k ≠ 7 → k ≠ 8 → fup h4 (p + 3) (T 1) q 2 k = h 2 k := fun k z1 z2 => by rw [fup_a (by omega), t4 k z1 z2, fup_a (by omega), u4 k z1 z2, fup_a (by omega), w4 k z1 z2, q4 k z1, fup_k z1]
            have k8 : fup h4 (p + 3) (T 1) q 8 = h1 8 := by rw [fup_r (by omega), t3 8 (by omega), fup_r (by omega), u3 8 (by omega), fup_r (by omega), w3 8 (by omega)]
            have e74 := hC5.2.1
            simp (disch := first | assumption | omega) only [st_X3_readMachine_0, st_X3_readMachine_1, ↓if_pos, ↓if_neg, if_pos, if_neg, ↓reduceIte, true_and, and_true, false_and, and_false, true_or, or_true, false_or, or_false, w32_id, Kv, Kn, fup_s, fup_a, fup_k, fup_fup, Int.reduceAdd, Int.reduceSub, Int.reduceMul, Int.reduceNeg, t5, e74]
            generalize fup h4 (p + 3) (T 1) q = A at *
            obtain ⟨hKA, e7A, hAA⟩ := hC5'
            have hjA := (toks_at hn hKA hAA).1
            have epA := rr0 1
            have epA2 := rr0 2
            have epr := hD.1
            obtain ⟨x, hx⟩ := key_01 b n (j + 1 + 1 + 1 + 1 + 1) (-3)
            have hkey := fun (nx : Nat) (r : PF) (s : Int → Int) (Q : PO → PY → Nat → PC → Prop) (hWr : WFr r) => @S_isKey n (j + 1 + 1 + 1 + 1 + 1) (-3) b nx A r s Q hWr hn hKA hAA (by omega) (by omega) x hx
            have fin : ∀ (H : PF) (j' ls : Int), (∀ y, y ≠ 2 → y ≠ p → H y = A y) → (∀ k, k ≠ 7 → H 2 k = A 2 k) → H 2 7 = j' → Al b n j' → (∀ k, k ≠ 1 → k ≠ 2 → H p k = h p k) → H p 1 = T 1 + 1 → (ls = 1 ∧ H p 2 = por (h p 2) (pshl 1 (T 1)) ∨ ls = 0 ∧ H p 2 = h p 2) → pMach b n j T W tr = Sum.inr (j', uM T c g q ls, upW W (T 1) (ww b n (j + 1)), tr) → Q (Sum.inl (some (pI 1))) LY nx (H, r, s) := by
              intro H j' ls g1 g2 g3 g4 g5 g6 g7 g8
              refine Ks _ H g8 (cfr_t f4 ⟨fun y y1 y2 y3 => g1 y y1 (by omega), g2 0 (by omega)⟩) (by rw [g2 1 (by omega), k2 1 (by omega) (by omega)]) (by rw [g2 2 (by omega), k2 2 (by omega) (by omega)]) ⟨⟨toks_fr hKA (by rw [g1 4 (by omega) (by omega)]) (g1 5 (by omega) (by omega)) (g1 6 (by omega) (by omega)) (g1 7 (by omega) (by omega)), g3, g4⟩, ⟨by dsimp only; rw [g2 6 (by omega), k2 6 (by omega) (by omega)]; exact e6, htr⟩, fun i i1 i2 => ?_, ?_, dwf_uM hDW hm4 (by omega) (by omega) (by omega) (by omega)⟩
              · dsimp only at i2 ⊢
                rw [uM_1] at i2
                rw [g1 8 (by omega) (by omega), k8]
                exact hN1 i i1 i2
              · exact dr_mach hD hDW hm4 (g5 0 (by omega) (by omega)) g6 (g5 3 (by omega) (by omega)) (g5 4 (by omega) (by omega)) g7 (by rw [g1 (p + 1) (by omega) (by omega)]; exact rr1) (by rw [g1 (p + 2) (by omega) (by omega)]; exact rr2) (by rw [g1 (p + 3) (by omega) (by omega)]; exact rr3) (by rw [g1 (p + 4) (by omega) (by omega)]; exact rr4 _ (by omega) (by omega)) (by rw [g1 (p + 5) (by omega) (by omega)]; exact rr4 _ (by omega) (by omega)) (by rw [g1 (p + 6) (by omega) (by omega)]; exact rr4 _ (by omega) (by omega))
            rcases hx with z | z
            · have hKK := fin (fup (fup (fup A p 2 (por (h p 2) (pshl 1 (T 1)))) 2 7 (j + 1 + 1 + 1 + 1 + 1 + 1)) p 1 (T 1 + 1)) (j + 1 + 1 + 1 + 1 + 1 + 1) 1 (fun y y1 y2 => by rw [fup_r y2, fup_r y1, fup_r y2]) (fun k z1 => by rw [fup_a (by omega), fup_k z1, fup_a (by omega)]) (by rw [fup_a (by omega), fup_s]) (al_s hAA (by rw [z.2.1]; omega)) (fun k z1 z2 => by rw [fup_k z1, fup_a (by omega), fup_k z2]; exact rr0 k) (by rw [fup_s]) (Or.inl ⟨rfl, by rw [fup_k (by omega), fup_a (by omega), fup_s]⟩) (hpm _ (by rw [w1]; dsimp only; rw [u1]; dsimp only; rw [t1]; dsimp only; rw [if_pos (show kk b n (j + 1 + 1 + 1 + 1 + 1) = 1 ∧ ww b n (j + 1 + 1 + 1 + 1 + 1) = kw (-3) from z.2)]))
              have ez := z.1
              simp (disch := first | assumption | omega) only [st_X3_readMachine_0, st_X3_readMachine_1, ↓if_pos, ↓if_neg, if_pos, if_neg, ↓reduceIte, true_and, and_true, false_and, and_false, true_or, or_true, false_or, or_false, w32_id, Kv, Kn, fup_s, fup_a, fup_k, fup_fup, Int.reduceAdd, Int.reduceSub, Int.reduceMul, Int.reduceNeg, e7A, hkey, ez, epA, epA2, ep1]
              exact hKK
            · have hKK := fin (fup A p 1 (T 1 + 1)) (j + 1 + 1 + 1 + 1 + 1) 0 (fun y y1 y2 => by rw [fup_r y2]) (fun k z1 => by rw [fup_a (by omega)]) (by rw [fup_a (by omega)]; exact e7A) hAA (fun k z1 z2 => by rw [fup_k z1]; exact rr0 k) (by rw [fup_s]) (Or.inr ⟨rfl, by rw [fup_k (by omega)]; exact rr0 2⟩) (hpm _ (by rw [w1]; dsimp only; rw [u1]; dsimp only; rw [t1]; dsimp only; rw [if_neg (show ¬ (kk b n (j + 1 + 1 + 1 + 1 + 1) = 1 ∧ ww b n (j + 1 + 1 + 1 + 1 + 1) = kw (-3)) from z.2)]))
              have ez := z.1
              simp (disch := first | assumption | omega) only [st_X3_readMachine_0, st_X3_readMachine_1, ↓if_pos, ↓if_neg, if_pos, if_neg, ↓reduceIte, true_and, and_true, false_and, and_false, true_or, or_true, false_or, or_false, w32_id, Kv, Kn, fup_s, fup_a, fup_k, fup_fup, Int.reduceAdd, Int.reduceSub, Int.reduceMul, Int.reduceNeg, e7A, hkey, ez, epA, epA2, ep1]
              exact hKK
