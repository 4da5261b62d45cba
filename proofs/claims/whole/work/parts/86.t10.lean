/-! TEXT, THE REFERENCE: machines, and any statement -/
theorem C_machineLine {n j tr : Int} {b T : Int → Int} {W : Int → List Int} {nx : Nat} {h r : PF} {s : Int → Int} {Q : PO → PY → Nat → PC → Prop} (hW : WFr r) (hn : 0 ≤ n) (hn2 : n ≤ 600) (hS : RSt h b n (j, T, W, tr)) (hk : kk b n j ≠ 0) (Kf : ∀ (c e : Int) (h' : PF), pMach b n j T W tr = Sum.inl (c, e) → RFr h h' → h' 178 11 = c → h' 178 12 = e → Q (Sum.inl (some (pI 0))) LY nx (h', r, s)) (Ks : ∀ (S' : PSt) (h' : PF), pMach b n j T W tr = Sum.inr S' → RFr h h' → RSt h' b n S' → Q (Sum.inl (some (pI 1))) LY nx (h', r, s)) : Wp 140 0 [some (pR 178), none, none, none, none] [] LY nx (h, r, s) Q := by
  have hS0 := hS
  obtain ⟨hT, ⟨e11, e12⟩, ⟨e14, htr⟩, hN, h2, hDW⟩ := hS
  dsimp only at hT e14 htr hN h2 hDW
  have g6 := hT.2.1
  have hT1 := hDW.2.1
  have a1 : h 182 1 = T 1 := h2 1 (by omega) (by omega)
  by_cases h4 : 4 ≤ T 1
  · have hff := ff_mk (h := h) (c := 5)
    have hKK := Kf 5 (ss b n j) _ (by unfold pMach; rw [if_pos h4]) (ff_r rfr_0 hff) hff.2.2.1 (by rw [hff.2.2.2]; exact g6)
    simp (disch := first | assumption | omega) only [st_X8_machineLine_0, st_X8_machineLine_1, ↓if_pos, ↓if_neg, if_pos, if_neg, ↓reduceIte, true_and, and_true, false_and, and_false, true_or, or_true, false_or, or_false, w32_id, Kv, Kn, fup_s, fup_a, fup_k, fup_fup, Int.reduceAdd, Int.reduceSub, Int.reduceMul, Int.reduceNeg, a1, S_starts0 hW e11]
    exact hKK
  simp (disch := first | assumption | omega) only [st_X8_machineLine_0, st_X8_machineLine_1, ↓if_pos, ↓if_neg, if_pos, if_neg, ↓reduceIte, true_and, and_true, false_and, and_false, true_or, or_true, false_or, or_false, w32_id, Kv, Kn, fup_s, fup_a, fup_k, fup_fup, Int.reduceAdd, Int.reduceSub, Int.reduceMul, Int.reduceNeg, a1]
  refine C_starts1 hW hn hn2 hT hk (fun h1 q1 q2 hR1 => ?_)
  have f1 : RFr h h1 := rfr_178 q1 (fun k hk => q2 k (by omega))
  have g11 : h1 178 11 = 0 := by rw [q2 11 (by omega)]; exact e11
  have g8 := hR1.2.2.2.1
  have b6 := hR1.2.1
  have a11 : h1 182 1 = T 1 := by rw [q1 182 (by omega)]; exact a1
  have hN1 : ∀ i, 0 ≤ i → i < T 1 → h1 183 i = N256 (W i) ∧ Dg (W i) := fun i i1 i2 => by rw [q1 183 (by omega)]; exact hN i i1 i2
  by_cases k1 : kk b n (j + 1) = 1
  · have hw := ww_ok hn k1
    have g10 := hR1.2.2.2.2.2.1 k1
    by_cases hz : gNm W (ww b n (j + 1)) (T 1) = -1
    · have hpm : ∀ X : PRs, (match pNum b n 0 999 (j + 1 + 1) with
        | Sum.inl e => Sum.inl e
        | Sum.inr c => match pNum b n 1 9 (j + 1 + 1 + 1) with
          | Sum.inl e => Sum.inl e
          | Sum.inr g => match pNum b n 1 6 (j + 1 + 1 + 1 + 1) with
            | Sum.inl e => Sum.inl e
            | Sum.inr q => Sum.inr (if kk b n (j + 1 + 1 + 1 + 1 + 1) = 1 ∧ ww b n (j + 1 + 1 + 1 + 1 + 1) = kw (-3) then (j + 1 + 1 + 1 + 1 + 1 + 1, uM T c g q 1, upW W (T 1) (ww b n (j + 1)), tr) else (j + 1 + 1 + 1 + 1 + 1, uM T c g q 0, upW W (T 1) (ww b n (j + 1)), tr))) = X → pMach b n j T W tr = X := fun X z => by
        unfold pMach
        rw [if_neg h4, if_neg (fun y => y k1), if_neg (fun y => y hz)]
        exact z
      simp (disch := first | assumption | omega) only [st_X8_machineLine_0, st_X8_machineLine_1, ↓if_pos, ↓if_neg, if_pos, if_neg, ↓reduceIte, true_and, and_true, false_and, and_false, true_or, or_true, false_or, or_false, w32_id, Kv, Kn, fup_s, fup_a, fup_k, fup_fup, Int.reduceAdd, Int.reduceSub, Int.reduceMul, Int.reduceNeg, g8, g10, S_named (h := h1) (m := T 1) (W := W) hW hT1.1 hT1.2 a11 hw.1 hN1]
      refine C_starts1 hW hn hn2 hR1 (by omega) (fun h2' u1 u2 hR2 => ?_)
      have f2 : RFr h (fup h2' 183 (T 1) (N256 (ww b n (j + 1)))) := rfr_t f1 ⟨fun x x1 x2 x3 => by rw [fup_r x3, u1 x x1], fun k hk => by rw [fup_a (by omega), u2 k (by omega)]⟩
      have hR2' : RT (fup h2' 183 (T 1) (N256 (ww b n (j + 1)))) b n (j + 1 + 1) := rt_fr hR2 (fup_r (by omega)) (fun k k1 k2 => fup_a (by omega))
      have i11 : fup h2' 183 (T 1) (N256 (ww b n (j + 1))) 178 11 = 0 := by rw [fup_a (by omega), u2 11 (by omega)]; exact g11
      simp (disch := first | assumption | omega) only [st_X8_machineLine_0, st_X8_machineLine_1, ↓if_pos, ↓if_neg, if_pos, if_neg, ↓reduceIte, true_and, and_true, false_and, and_false, true_or, or_true, false_or, or_false, w32_id, Kv, Kn, fup_s, fup_a, fup_k, fup_fup, Int.reduceAdd, Int.reduceSub, Int.reduceMul, Int.reduceNeg]
      refine C_lays hW hn hn2 hR2' i11 (by omega) (by omega) (fun c e h' w1 w2 w3 => ?_) (fun c h3 w1 w2 w3 w4 w5 hR3 => ?_)
      · have hKK := Kf c e h' (hpm _ (by rw [w1])) (ff_r f2 w2) w2.2.2.1 w3
        simp (disch := first | assumption | omega) only [st_X8_machineLine_0, st_X8_machineLine_1, ↓if_pos, ↓if_neg, if_pos, if_neg, ↓reduceIte, true_and, and_true, false_and, and_false, true_or, or_true, false_or, or_false, w32_id, Kv, Kn, fup_s, fup_a, fup_k, fup_fup, Int.reduceAdd, Int.reduceSub, Int.reduceMul, Int.reduceNeg]
        exact hKK
      have f3 : RFr h h3 := rfr_t f2 ⟨fun x x1 x2 x3 => w3 x x1 x2, fun k hk => w5 k (by omega) (by omega)⟩
      have i11 : h3 178 11 = 0 := by rw [w5 11 (by omega) (by omega)]; exact i11
      simp (disch := first | assumption | omega) only [st_X8_machineLine_0, st_X8_machineLine_1, ↓if_pos, ↓if_neg, if_pos, if_neg, ↓reduceIte, true_and, and_true, false_and, and_false, true_or, or_true, false_or, or_false, w32_id, Kv, Kn, fup_s, fup_a, fup_k, fup_fup, Int.reduceAdd, Int.reduceSub, Int.reduceMul, Int.reduceNeg]
      refine C_lays hW hn hn2 hR3 i11 (by omega) (by omega) (fun c e h' x1 x2 x3 => ?_) (fun g h4' x1 x2 x3 x4 x5 hR4 => ?_)
      · have hKK := Kf c e h' (hpm _ (by rw [w1]; dsimp only; rw [x1])) (ff_r f3 x2) x2.2.2.1 x3
        simp (disch := first | assumption | omega) only [st_X8_machineLine_0, st_X8_machineLine_1, ↓if_pos, ↓if_neg, if_pos, if_neg, ↓reduceIte, true_and, and_true, false_and, and_false, true_or, or_true, false_or, or_false, w32_id, Kv, Kn, fup_s, fup_a, fup_k, fup_fup, Int.reduceAdd, Int.reduceSub, Int.reduceMul, Int.reduceNeg]
        exact hKK
      have f4 : RFr h h4' := rfr_t f3 ⟨fun x y1 y2 y3 => x3 x y1 y2, fun k hk => x5 k (by omega) (by omega)⟩
      have i11 : h4' 178 11 = 0 := by rw [x5 11 (by omega) (by omega)]; exact i11
      simp (disch := first | assumption | omega) only [st_X8_machineLine_0, st_X8_machineLine_1, ↓if_pos, ↓if_neg, if_pos, if_neg, ↓reduceIte, true_and, and_true, false_and, and_false, true_or, or_true, false_or, or_false, w32_id, Kv, Kn, fup_s, fup_a, fup_k, fup_fup, Int.reduceAdd, Int.reduceSub, Int.reduceMul, Int.reduceNeg]
      refine C_lays hW hn hn2 hR4 i11 (by omega) (by omega) (fun c e h' y1 y2 y3 => ?_) (fun q h5 y1 y2 y3 y4 y5 hR5 => ?_)
      · have hKK := Kf c e h' (hpm _ (by rw [w1]; dsimp only; rw [x1]; dsimp only; rw [y1])) (ff_r f4 y2) y2.2.2.1 y3
        simp (disch := first | assumption | omega) only [st_X8_machineLine_0, st_X8_machineLine_1, ↓if_pos, ↓if_neg, if_pos, if_neg, ↓reduceIte, true_and, and_true, false_and, and_false, true_or, or_true, false_or, or_false, w32_id, Kv, Kn, fup_s, fup_a, fup_k, fup_fup, Int.reduceAdd, Int.reduceSub, Int.reduceMul, Int.reduceNeg]
        exact hKK
      have f5 : RFr h h5 := rfr_t f4 ⟨fun x z1 z2 z3 => y3 x z1 z2, fun k hk => y5 k (by omega) (by omega)⟩
      have i11 : h5 178 11 = 0 := by rw [y5 11 (by omega) (by omega)]; exact i11
      have i12 : h5 178 12 = -1 := by rw [y5 12 (by omega) (by omega), x5 12 (by omega) (by omega), w5 12 (by omega) (by omega), fup_a (by omega), u2 12 (by omega), q2 12 (by omega)]; exact e12
      have i14 : h5 178 14 = tr := by rw [y5 14 (by omega) (by omega), x5 14 (by omega) (by omega), w5 14 (by omega) (by omega), fup_a (by omega), u2 14 (by omega), q2 14 (by omega)]; exact e14
      have i183 : h5 183 = up1 (h 183) (T 1) (N256 (ww b n (j + 1))) := by rw [y3 183 (by omega) (by omega), x3 183 (by omega) (by omega), w3 183 (by omega) (by omega), fup_self, u1 183 (by omega), q1 183 (by omega)]
      have i182 : h5 182 = up1 (up1 (up1 (h 182) (4 + 40 * T 1 + 0) c) (4 + 40 * T 1 + 1) g) (4 + 40 * T 1 + 2) q := by rw [y4, x4, w4, fup_r (by omega), u1 182 (by omega), q1 182 (by omega)]
      have i1821 : h5 182 1 = T 1 := by rw [i182, up1_k (by omega), up1_k (by omega), up1_k (by omega)]; exact a1
      have hNn : ∀ i, 0 ≤ i → i < T 1 + 1 → h5 183 i = N256 (upW W (T 1) (ww b n (j + 1)) i) ∧ Dg (upW W (T 1) (ww b n (j + 1)) i) := fun i i1 i2 => by
        rw [i183]
        unfold upW
        by_cases z : i = T 1
        · rw [if_pos z, z, up1_s]; exact ⟨rfl, hw.1⟩
        · rw [if_neg z, up1_k z]; exact hN i i1 (by omega)
      have fin : ∀ (H : PF) (j' ls : Int), (ls = 0 ∨ ls = 1) → (∀ a, a ≠ 178 → a ≠ 182 → H a = h5 a) → (∀ k, k < 6 ∨ 10 < k → H 178 k = h5 178 k) → RT H b n j' → (∀ k, 0 ≤ k → k < 164 → H 182 k = uM T c g q ls k) → pMach b n j T W tr = Sum.inr (j', uM T c g q ls, upW W (T 1) (ww b n (j + 1)), tr) → Q (Sum.inl (some (pI 1))) LY nx (H, r, s) := by
        intro H j' ls z0 z1 z2 z3 z4 z5
        refine Ks _ H z5 (rfr_t f5 ⟨fun x y1 y2 y3 => z1 x y1 y2, fun k hk => z2 k (by omega)⟩) ⟨z3, ⟨by rw [z2 11 (by omega)]; exact i11, by rw [z2 12 (by omega)]; exact i12⟩, ⟨by dsimp only; rw [z2 14 (by omega)]; exact i14, htr⟩, fun i i1 i2 => ?_, z4, dwf_uM hDW (by omega) (by omega) (by omega) (by omega) z0⟩
        dsimp only at i2 ⊢
        rw [uM_1] at i2
        rw [z1 183 (by omega) (by omega)]
        exact hNn i i1 i2
      obtain ⟨x, hx⟩ := key_01 b n (j + 1 + 1 + 1 + 1 + 1) (-3)
      have hkey := fun (nx : Nat) (r : PF) (s : Int → Int) (Q : PO → PY → Nat → PC → Prop) (hWr : WFr r) => @S_isWord n (j + 1 + 1 + 1 + 1 + 1) b (-3) x nx h5 r s Q hWr hn hn2 hR5 (by omega) (by omega) hx
      rcases hx with z | z
      · have ez := z.1
        have hz2 : kk b n (j + 1 + 1 + 1 + 1 + 1) = 1 ∧ ww b n (j + 1 + 1 + 1 + 1 + 1) = kw (-3) := z.2
        have hk5 := hz2.1
        simp (disch := first | assumption | omega) only [st_X8_machineLine_0, st_X8_machineLine_1, ↓if_pos, ↓if_neg, if_pos, if_neg, ↓reduceIte, true_and, and_true, false_and, and_false, true_or, or_true, false_or, or_false, w32_id, Kv, Kn, fup_s, fup_a, fup_k, fup_fup, Int.reduceAdd, Int.reduceSub, Int.reduceMul, Int.reduceNeg, hkey, ez]
        have hR6 : RT (fup h5 182 (4 + 40 * T 1 + 3) 1) b n (j + 1 + 1 + 1 + 1 + 1) := rt_fr hR5 (fup_r (by omega)) (fun k k1 k2 => fup_a (by omega))
        refine C_adv hW hn hn2 hR6 (by omega) (fun h6 v1 v2 hR7 => ?_)
        have e6 : h6 182 1 = T 1 := by rw [v1 182 (by omega), fup_k (by omega)]; exact i1821
        have hKK := fin (fup h6 182 1 (T 1 + 1)) (j + 1 + 1 + 1 + 1 + 1 + 1) 1 (Or.inr rfl) (fun a a1 a2 => by rw [fup_r a2, v1 a a1, fup_r a2]) (fun k hk => by rw [fup_a (by omega), v2 k (by omega), fup_a (by omega)]) (rt_fr hR7 (fup_r (by omega)) (fun k k1 k2 => fup_a (by omega))) (fun k k1 k2 => by
          rw [fup_self, v1 182 (by omega), fup_self, i182]
          unfold uM up1
          have := h2 k k1 k2
          (repeat' split) <;> first | rfl | exact this | omega) (hpm _ (by rw [w1]; dsimp only; rw [x1]; dsimp only; rw [y1]; dsimp only; rw [if_pos hz2]))
        simp (disch := first | assumption | omega) only [st_X8_machineLine_0, st_X8_machineLine_1, ↓if_pos, ↓if_neg, if_pos, if_neg, ↓reduceIte, true_and, and_true, false_and, and_false, true_or, or_true, false_or, or_false, w32_id, Kv, Kn, fup_s, fup_a, fup_k, fup_fup, Int.reduceAdd, Int.reduceSub, Int.reduceMul, Int.reduceNeg, e6]
        exact hKK
      · have ez := z.1
        have hz2 : ¬ (kk b n (j + 1 + 1 + 1 + 1 + 1) = 1 ∧ ww b n (j + 1 + 1 + 1 + 1 + 1) = kw (-3)) := z.2
        have d3 := (hDW.2.2.2.2.2 (T 1) hT1.1 (by omega)).2.2.1 (by omega) 3 (by omega) (by omega)
        have d3' : T (4 + 40 * T 1 + 3) = 0 := d3
        have hKK := fin (fup h5 182 1 (T 1 + 1)) (j + 1 + 1 + 1 + 1 + 1) 0 (Or.inl rfl) (fun a a1 a2 => by rw [fup_r a2]) (fun k hk => by rw [fup_a (by omega)]) (rt_fr hR5 (fup_r (by omega)) (fun k k1 k2 => fup_a (by omega))) (fun k k1 k2 => by
          rw [fup_self, i182]
          unfold uM up1
          have := h2 k k1 k2
          by_cases e3 : k = 4 + 40 * T 1 + 3
          · rw [e3, d3'] at this
            rw [e3]
            rw [if_neg (show ¬ 4 + 40 * T 1 + 3 = 1 by omega), if_neg (show ¬ 4 + 40 * T 1 + 3 = 4 + 40 * T 1 + 2 by omega), if_neg (show ¬ 4 + 40 * T 1 + 3 = 4 + 40 * T 1 + 1 by omega), if_neg (show ¬ 4 + 40 * T 1 + 3 = 4 + 40 * T 1 + 0 by omega), if_neg (show ¬ 4 + 40 * T 1 + 3 = 1 by omega), if_pos rfl]
            exact this
          · (repeat' split) <;> first | rfl | exact this | omega) (hpm _ (by rw [w1]; dsimp only; rw [x1]; dsimp only; rw [y1]; dsimp only; rw [if_neg hz2]))
        simp (disch := first | assumption | omega) only [st_X8_machineLine_0, st_X8_machineLine_1, ↓if_pos, ↓if_neg, if_pos, if_neg, ↓reduceIte, true_and, and_true, false_and, and_false, true_or, or_true, false_or, or_false, w32_id, Kv, Kn, fup_s, fup_a, fup_k, fup_fup, Int.reduceAdd, Int.reduceSub, Int.reduceMul, Int.reduceNeg, hkey, ez, i1821]
        exact hKK
    · have hff := ff_mk (h := h1) (c := 2)
      have hKK := Kf 2 (ss b n (j + 1)) _ (by unfold pMach; rw [if_neg h4, if_neg (fun y => y k1), if_pos hz]) (ff_r f1 hff) hff.2.2.1 (by rw [hff.2.2.2]; exact b6)
      simp (disch := first | assumption | omega) only [st_X8_machineLine_0, st_X8_machineLine_1, ↓if_pos, ↓if_neg, if_pos, if_neg, ↓reduceIte, true_and, and_true, false_and, and_false, true_or, or_true, false_or, or_false, w32_id, Kv, Kn, fup_s, fup_a, fup_k, fup_fup, Int.reduceAdd, Int.reduceSub, Int.reduceMul, Int.reduceNeg, g8, g10, S_named (h := h1) (m := T 1) (W := W) hW hT1.1 hT1.2 a11 hw.1 hN1, S_starts0 hW g11]
      exact hKK
  · have hff := ff_mk (h := h1) (c := 1)
    have hKK := Kf 1 (ss b n (j + 1)) _ (by unfold pMach; rw [if_neg h4, if_pos k1]) (ff_r f1 hff) hff.2.2.1 (by rw [hff.2.2.2]; exact b6)
    simp (disch := first | assumption | omega) only [st_X8_machineLine_0, st_X8_machineLine_1, ↓if_pos, ↓if_neg, if_pos, if_neg, ↓reduceIte, true_and, and_true, false_and, and_false, true_or, or_true, false_or, or_false, w32_id, Kv, Kn, fup_s, fup_a, fup_k, fup_fup, Int.reduceAdd, Int.reduceSub, Int.reduceMul, Int.reduceNeg, g8, S_fails hW g11]
    exact hKK
theorem C_statement {n j tr : Int} {b T : Int → Int} {W : Int → List Int} {nx : Nat} {h r : PF} {s : Int → Int} {Q : PO → PY → Nat → PC → Prop} (hW : WFr r) (hn : 0 ≤ n) (hn2 : n ≤ 600) (hS : RSt h b n (j, T, W, tr)) (hk : kk b n j ≠ 0) (Kf : ∀ (c e : Int) (h' : PF), pStm b n (j, T, W, tr) = Sum.inl (c, e) → RFr h h' → h' 178 11 = c → h' 178 12 = e → Q (Sum.inl (some (pI 0))) LY nx (h', r, s)) (Ks : ∀ (S' : PSt) (h' : PF), pStm b n (j, T, W, tr) = Sum.inr S' → RFr h h' → RSt h' b n S' → Q (Sum.inl (some (pI 1))) LY nx (h', r, s)) : Wp 148 0 [some (pR 178)] [] LY nx (h, r, s) Q := by
  have hS0 := hS
  obtain ⟨hT, ⟨e11, e12⟩, ⟨e14, htr⟩, hN, h2, hDW⟩ := hS
  dsimp only at hT e14 htr hN h2 hDW
  have ne := kw_ne
  have g6 := hT.2.1
  by_cases k2 : isK b n j (-2)
  · have hpm : pStm b n (j, T, W, tr) = pMach b n j T W tr := by unfold pStm; rw [if_pos (show kk b n j = 1 ∧ ww b n j = kw (-2) from k2)]
    simp (disch := first | assumption | omega) only [st_X8_statement, ↓if_pos, ↓if_neg, if_pos, if_neg, ↓reduceIte, true_and, and_true, false_and, and_false, true_or, or_true, false_or, or_false, w32_id, Kv, Kn, fup_s, fup_a, fup_k, fup_fup, Int.reduceAdd, Int.reduceSub, Int.reduceMul, Int.reduceNeg, S_isWord hW hn hn2 hT (a := -2) (by omega) (by omega) (x := 1) (Or.inl ⟨rfl, k2⟩)]
    refine C_machineLine hW hn hn2 hS0 hk (fun c e h' u1 u2 u3 u4 => ?_) (fun S' h' u1 u2 u3 => ?_)
    · have hKK := Kf c e h' (hpm.trans u1) u2 u3 u4
      simp (disch := first | assumption | omega) only [st_X8_statement, ↓if_pos, ↓if_neg, if_pos, if_neg, ↓reduceIte, true_and, and_true, false_and, and_false, true_or, or_true, false_or, or_false, w32_id, Kv, Kn, fup_s, fup_a, fup_k, fup_fup, Int.reduceAdd, Int.reduceSub, Int.reduceMul, Int.reduceNeg]
      exact hKK
    · have hKK := Ks S' h' (hpm.trans u1) u2 u3
      simp (disch := first | assumption | omega) only [st_X8_statement, ↓if_pos, ↓if_neg, if_pos, if_neg, ↓reduceIte, true_and, and_true, false_and, and_false, true_or, or_true, false_or, or_false, w32_id, Kv, Kn, fup_s, fup_a, fup_k, fup_fup, Int.reduceAdd, Int.reduceSub, Int.reduceMul, Int.reduceNeg]
      exact hKK
  by_cases k5 : isK b n j (-5)
  · have k4 : ¬ isK b n j (-4) := fun z => ne.2.2.2.2.1 (z.2.symm.trans k5.2)
    have hpl : pStm b n (j, T, W, tr) = match pHead b n j T W with | Sum.inl e => Sum.inl e | Sum.inr mf => pGo b n j T W tr mf.1 mf.2 := by
      unfold pStm
      rw [if_neg (show ¬ (kk b n j = 1 ∧ ww b n j = kw (-2)) from k2), if_neg (show ¬ (kk b n j = 1 ∧ ww b n j = kw (-4)) from k4), if_pos (show kk b n j = 1 ∧ ww b n j = kw (-5) from k5)]
      rfl
    simp (disch := first | assumption | omega) only [st_X8_statement, ↓if_pos, ↓if_neg, if_pos, if_neg, ↓reduceIte, true_and, and_true, false_and, and_false, true_or, or_true, false_or, or_false, w32_id, Kv, Kn, fup_s, fup_a, fup_k, fup_fup, Int.reduceAdd, Int.reduceSub, Int.reduceMul, Int.reduceNeg, S_isWord hW hn hn2 hT (a := -2) (by omega) (by omega) (x := 0) (Or.inr ⟨rfl, k2⟩), S_isWord hW hn hn2 hT (a := -5) (by omega) (by omega) (x := 1) (Or.inl ⟨rfl, k5⟩)]
    refine C_goLine hW hn hn2 hS0 hk hpl (fun c e h' u1 u2 u3 u4 => ?_) (fun S' h' u1 u2 u3 => ?_)
    · have hKK := Kf c e h' u1 u2 u3 u4
      simp (disch := first | assumption | omega) only [st_X8_statement, ↓if_pos, ↓if_neg, if_pos, if_neg, ↓reduceIte, true_and, and_true, false_and, and_false, true_or, or_true, false_or, or_false, w32_id, Kv, Kn, fup_s, fup_a, fup_k, fup_fup, Int.reduceAdd, Int.reduceSub, Int.reduceMul, Int.reduceNeg]
      exact hKK
    · have hKK := Ks S' h' u1 u2 u3
      simp (disch := first | assumption | omega) only [st_X8_statement, ↓if_pos, ↓if_neg, if_pos, if_neg, ↓reduceIte, true_and, and_true, false_and, and_false, true_or, or_true, false_or, or_false, w32_id, Kv, Kn, fup_s, fup_a, fup_k, fup_fup, Int.reduceAdd, Int.reduceSub, Int.reduceMul, Int.reduceNeg]
      exact hKK
  by_cases k6 : isK b n j (-6)
  · have k4 : ¬ isK b n j (-4) := fun z => ne.2.2.2.2.2.1 (z.2.symm.trans k6.2)
    have hpl : pStm b n (j, T, W, tr) = match pHead b n j T W with | Sum.inl e => Sum.inl e | Sum.inr mf => pAcc b n j T W tr mf.1 mf.2 := by
      unfold pStm
      rw [if_neg (show ¬ (kk b n j = 1 ∧ ww b n j = kw (-2)) from k2), if_neg (show ¬ (kk b n j = 1 ∧ ww b n j = kw (-4)) from k4), if_neg (show ¬ (kk b n j = 1 ∧ ww b n j = kw (-5)) from k5), if_pos (show kk b n j = 1 ∧ ww b n j = kw (-6) from k6)]
      rfl
    simp (disch := first | assumption | omega) only [st_X8_statement, ↓if_pos, ↓if_neg, if_pos, if_neg, ↓reduceIte, true_and, and_true, false_and, and_false, true_or, or_true, false_or, or_false, w32_id, Kv, Kn, fup_s, fup_a, fup_k, fup_fup, Int.reduceAdd, Int.reduceSub, Int.reduceMul, Int.reduceNeg, S_isWord hW hn hn2 hT (a := -2) (by omega) (by omega) (x := 0) (Or.inr ⟨rfl, k2⟩), S_isWord hW hn hn2 hT (a := -5) (by omega) (by omega) (x := 0) (Or.inr ⟨rfl, k5⟩), S_isWord hW hn hn2 hT (a := -6) (by omega) (by omega) (x := 1) (Or.inl ⟨rfl, k6⟩)]
    refine C_acceptLine hW hn hn2 hS0 hk hpl (fun c e h' u1 u2 u3 u4 => ?_) (fun S' h' u1 u2 u3 => ?_)
    · have hKK := Kf c e h' u1 u2 u3 u4
      simp (disch := first | assumption | omega) only [st_X8_statement, ↓if_pos, ↓if_neg, if_pos, if_neg, ↓reduceIte, true_and, and_true, false_and, and_false, true_or, or_true, false_or, or_false, w32_id, Kv, Kn, fup_s, fup_a, fup_k, fup_fup, Int.reduceAdd, Int.reduceSub, Int.reduceMul, Int.reduceNeg]
      exact hKK
    · have hKK := Ks S' h' u1 u2 u3
      simp (disch := first | assumption | omega) only [st_X8_statement, ↓if_pos, ↓if_neg, if_pos, if_neg, ↓reduceIte, true_and, and_true, false_and, and_false, true_or, or_true, false_or, or_false, w32_id, Kv, Kn, fup_s, fup_a, fup_k, fup_fup, Int.reduceAdd, Int.reduceSub, Int.reduceMul, Int.reduceNeg]
      exact hKK
  by_cases k7 : isK b n j (-7)
  · have k4 : ¬ isK b n j (-4) := fun z => ne.2.2.2.2.2.2.1 (z.2.symm.trans k7.2)
    have hpl : pStm b n (j, T, W, tr) = match pHead b n j T W with | Sum.inl e => Sum.inl e | Sum.inr mf => pTire b n j T W tr mf.1 mf.2 := by
      unfold pStm
      rw [if_neg (show ¬ (kk b n j = 1 ∧ ww b n j = kw (-2)) from k2), if_neg (show ¬ (kk b n j = 1 ∧ ww b n j = kw (-4)) from k4), if_neg (show ¬ (kk b n j = 1 ∧ ww b n j = kw (-5)) from k5), if_neg (show ¬ (kk b n j = 1 ∧ ww b n j = kw (-6)) from k6), if_pos (show kk b n j = 1 ∧ ww b n j = kw (-7) from k7)]
      rfl
    simp (disch := first | assumption | omega) only [st_X8_statement, ↓if_pos, ↓if_neg, if_pos, if_neg, ↓reduceIte, true_and, and_true, false_and, and_false, true_or, or_true, false_or, or_false, w32_id, Kv, Kn, fup_s, fup_a, fup_k, fup_fup, Int.reduceAdd, Int.reduceSub, Int.reduceMul, Int.reduceNeg, S_isWord hW hn hn2 hT (a := -2) (by omega) (by omega) (x := 0) (Or.inr ⟨rfl, k2⟩), S_isWord hW hn hn2 hT (a := -5) (by omega) (by omega) (x := 0) (Or.inr ⟨rfl, k5⟩), S_isWord hW hn hn2 hT (a := -6) (by omega) (by omega) (x := 0) (Or.inr ⟨rfl, k6⟩), S_isWord hW hn hn2 hT (a := -7) (by omega) (by omega) (x := 1) (Or.inl ⟨rfl, k7⟩)]
    refine C_tireLine hW hn hn2 hS0 hk hpl (fun c e h' u1 u2 u3 u4 => ?_) (fun S' h' u1 u2 u3 => ?_)
    · have hKK := Kf c e h' u1 u2 u3 u4
      simp (disch := first | assumption | omega) only [st_X8_statement, ↓if_pos, ↓if_neg, if_pos, if_neg, ↓reduceIte, true_and, and_true, false_and, and_false, true_or, or_true, false_or, or_false, w32_id, Kv, Kn, fup_s, fup_a, fup_k, fup_fup, Int.reduceAdd, Int.reduceSub, Int.reduceMul, Int.reduceNeg]
      exact hKK
    · have hKK := Ks S' h' u1 u2 u3
      simp (disch := first | assumption | omega) only [st_X8_statement, ↓if_pos, ↓if_neg, if_pos, if_neg, ↓reduceIte, true_and, and_true, false_and, and_false, true_or, or_true, false_or, or_false, w32_id, Kv, Kn, fup_s, fup_a, fup_k, fup_fup, Int.reduceAdd, Int.reduceSub, Int.reduceMul, Int.reduceNeg]
      exact hKK
  by_cases k4 : isK b n j (-4)
  · have hpm : pStm b n (j, T, W, tr) = pTurn b n j T W tr := by unfold pStm; rw [if_neg (show ¬ (kk b n j = 1 ∧ ww b n j = kw (-2)) from k2), if_pos (show kk b n j = 1 ∧ ww b n j = kw (-4) from k4)]
    simp (disch := first | assumption | omega) only [st_X8_statement, ↓if_pos, ↓if_neg, if_pos, if_neg, ↓reduceIte, true_and, and_true, false_and, and_false, true_or, or_true, false_or, or_false, w32_id, Kv, Kn, fup_s, fup_a, fup_k, fup_fup, Int.reduceAdd, Int.reduceSub, Int.reduceMul, Int.reduceNeg, S_isWord hW hn hn2 hT (a := -2) (by omega) (by omega) (x := 0) (Or.inr ⟨rfl, k2⟩), S_isWord hW hn hn2 hT (a := -5) (by omega) (by omega) (x := 0) (Or.inr ⟨rfl, k5⟩), S_isWord hW hn hn2 hT (a := -6) (by omega) (by omega) (x := 0) (Or.inr ⟨rfl, k6⟩), S_isWord hW hn hn2 hT (a := -7) (by omega) (by omega) (x := 0) (Or.inr ⟨rfl, k7⟩), S_isWord hW hn hn2 hT (a := -4) (by omega) (by omega) (x := 1) (Or.inl ⟨rfl, k4⟩)]
    refine C_turnLine hW hn hn2 hS0 hk (fun c e h' u1 u2 u3 u4 => ?_) (fun S' h' u1 u2 u3 => ?_)
    · have hKK := Kf c e h' (hpm.trans u1) u2 u3 u4
      simp (disch := first | assumption | omega) only [st_X8_statement, ↓if_pos, ↓if_neg, if_pos, if_neg, ↓reduceIte, true_and, and_true, false_and, and_false, true_or, or_true, false_or, or_false, w32_id, Kv, Kn, fup_s, fup_a, fup_k, fup_fup, Int.reduceAdd, Int.reduceSub, Int.reduceMul, Int.reduceNeg]
      exact hKK
    · have hKK := Ks S' h' (hpm.trans u1) u2 u3
      simp (disch := first | assumption | omega) only [st_X8_statement, ↓if_pos, ↓if_neg, if_pos, if_neg, ↓reduceIte, true_and, and_true, false_and, and_false, true_or, or_true, false_or, or_false, w32_id, Kv, Kn, fup_s, fup_a, fup_k, fup_fup, Int.reduceAdd, Int.reduceSub, Int.reduceMul, Int.reduceNeg]
      exact hKK
  have hff := ff_mk (h := h) (c := 1)
  have hKK := Kf 1 (ss b n j) _ (by unfold pStm; rw [if_neg (show ¬ (kk b n j = 1 ∧ ww b n j = kw (-2)) from k2), if_neg (show ¬ (kk b n j = 1 ∧ ww b n j = kw (-4)) from k4), if_neg (show ¬ (kk b n j = 1 ∧ ww b n j = kw (-5)) from k5), if_neg (show ¬ (kk b n j = 1 ∧ ww b n j = kw (-6)) from k6), if_neg (show ¬ (kk b n j = 1 ∧ ww b n j = kw (-7)) from k7)]) (ff_r rfr_0 hff) hff.2.2.1 (by rw [hff.2.2.2]; exact g6)
  simp (disch := first | assumption | omega) only [st_X8_statement, ↓if_pos, ↓if_neg, if_pos, if_neg, ↓reduceIte, true_and, and_true, false_and, and_false, true_or, or_true, false_or, or_false, w32_id, Kv, Kn, fup_s, fup_a, fup_k, fup_fup, Int.reduceAdd, Int.reduceSub, Int.reduceMul, Int.reduceNeg, S_isWord hW hn hn2 hT (a := -2) (by omega) (by omega) (x := 0) (Or.inr ⟨rfl, k2⟩), S_isWord hW hn hn2 hT (a := -5) (by omega) (by omega) (x := 0) (Or.inr ⟨rfl, k5⟩), S_isWord hW hn hn2 hT (a := -6) (by omega) (by omega) (x := 0) (Or.inr ⟨rfl, k6⟩), S_isWord hW hn hn2 hT (a := -7) (by omega) (by omega) (x := 0) (Or.inr ⟨rfl, k7⟩), S_isWord hW hn hn2 hT (a := -4) (by omega) (by omega) (x := 0) (Or.inr ⟨rfl, k4⟩), S_fails hW e11]
  exact hKK
