/-! TEXT, THE REFERENCE: statements -/
def RSt (h : PF) (b : Int → Int) (n : Int) (S : PSt) : Prop := RT h b n S.1 ∧ (h 178 11 = 0 ∧ h 178 12 = -1) ∧ (h 178 14 = S.2.2.2 ∧ (S.2.2.2 = 0 ∨ S.2.2.2 = 1)) ∧ (∀ i, 0 ≤ i → i < S.2.1 1 → h 183 i = N256 (S.2.2.1 i) ∧ Dg (S.2.2.1 i)) ∧ (∀ k, 0 ≤ k → k < 164 → h 182 k = S.2.1 k) ∧ DWf S.2.1
theorem ff_r {h h1 h' : PF} {c : Int} (a : RFr h h1) (f : FF h1 h' c) : RFr h h' := ⟨fun x x1 x2 x3 => (f.1 x x1).trans (a.1 x x1 x2 x3), fun k hk => (f.2.1 k (by omega) (by omega)).trans (a.2 k hk)⟩
theorem rfr_0 {h : PF} : RFr h h := ⟨fun x x1 x2 x3 => rfl, fun k hk => rfl⟩
theorem rfr_178 {h h' : PF} (h1 : ∀ a, a ≠ 178 → h' a = h a) (h2 : ∀ k, k < 6 ∨ 17 < k → h' 178 k = h 178 k) : RFr h h' := ⟨fun a a1 a2 a3 => h1 a a1, h2⟩
theorem C_machineRead {n j tr : Int} {b T : Int → Int} {W : Int → List Int} {nx : Nat} {h r : PF} {s : Int → Int} {Q : PO → PY → Nat → PC → Prop} (hW : WFr r) (hn : 0 ≤ n) (hn2 : n ≤ 600) (hS : RSt h b n (j, T, W, tr)) (hk : kk b n j ≠ 0) (Kf : ∀ (c e : Int) (h' : PF), pHead b n j T W = Sum.inl (c, e) → RFr h h' → h' 178 11 = c → h' 178 12 = e → Q (Sum.inl (some (pI 0))) LY nx (h', r, s)) (Ks : ∀ (m : Int) (h' : PF), kk b n (j + 1) = 1 → gNm W (ww b n (j + 1)) (T 1) = m → (0 ≤ m ∧ m < T 1) → RFr h h' → h' 178 17 = 4 + 40 * m → RSt h' b n (j + 1 + 1, T, W, tr) → Q (Sum.inl (some (pI 1))) LY nx (h', r, s)) : Wp 141 0 [some (pR 178), none] [] LY nx (h, r, s) Q := by
  obtain ⟨hT, ⟨e11, e12⟩, ⟨e14, htr⟩, hN, h2, hDW⟩ := hS
  dsimp only at hT e14 htr hN h2 hDW
  have hT1 := hDW.2.1
  simp (disch := first | assumption | omega) only [st_X8_machineRead, ↓if_pos, ↓if_neg, if_pos, if_neg, ↓reduceIte, true_and, and_true, false_and, and_false, true_or, or_true, false_or, or_false, w32_id, Kv, Kn, fup_s, fup_a, fup_k, fup_fup, Int.reduceAdd, Int.reduceSub, Int.reduceMul, Int.reduceNeg]
  refine C_adv hW hn hn2 hT hk (fun h1 q1 q2 hT1r => ?_)
  have f1 : RFr h h1 := rfr_178 q1 (fun k hk => q2 k (by omega))
  have g11 : h1 178 11 = 0 := by rw [q2 11 (by omega)]; exact e11
  have g8 := hT1r.2.2.2.1
  have g6 := hT1r.2.1
  have a1 : h1 182 1 = T 1 := by rw [q1 182 (by omega)]; exact h2 1 (by omega) (by omega)
  have hN1 : ∀ i, 0 ≤ i → i < T 1 → h1 183 i = N256 (W i) ∧ Dg (W i) := fun i i1 i2 => by rw [q1 183 (by omega)]; exact hN i i1 i2
  by_cases k1 : kk b n (j + 1) = 1
  · have hw := ww_ok hn k1
    have g10 := hT1r.2.2.2.2.2.1 k1
    have hg := gNm_rng (W := W) (x := ww b n (j + 1)) hT1.1
    have hna := fun (nx : Nat) (h : PF) (r : PF) (s : Int → Int) (Q : PO → PY → Nat → PC → Prop) (hW : WFr r) (e1 : h 182 1 = T 1) (hN1 : ∀ i, 0 ≤ i → i < T 1 → h 183 i = N256 (W i) ∧ Dg (W i)) => S_named (nx := nx) (h := h) (r := r) (s := s) (Q := Q) hW hT1.1 hT1.2 e1 hw.1 hN1
    have hph : gNm W (ww b n (j + 1)) (T 1) = -1 → pHead b n j T W = Sum.inl (4, ss b n (j + 1)) := fun z => by
      unfold pHead
      rw [if_neg (show ¬ kk b n (j + 1) ≠ 1 from fun y => y k1), if_pos z]
    generalize hm : gNm W (ww b n (j + 1)) (T 1) = m at *
    by_cases hz : m = -1
    · have hff := ff_mk (h := fup h1 178 17 (4 + 40 * m)) (c := 4)
      have f2 : RFr h (fup h1 178 17 (4 + 40 * m)) := ⟨fun x x1 x2 x3 => by rw [fup_r x1]; exact f1.1 x x1 x2 x3, fun k hk => by rw [fup_k (by omega)]; exact f1.2 k hk⟩
      have g11' : fup h1 178 17 (4 + 40 * m) 178 11 = 0 := by rw [fup_k (by omega)]; exact g11
      have hKK := Kf 4 (ss b n (j + 1)) _ (hph hz) (ff_r f2 hff) hff.2.2.1 (by rw [hff.2.2.2, fup_k (by omega)]; exact g6)
      simp (disch := first | assumption | omega) only [st_X8_machineRead, ↓if_pos, ↓if_neg, if_pos, if_neg, ↓reduceIte, true_and, and_true, false_and, and_false, true_or, or_true, false_or, or_false, w32_id, Kv, Kn, fup_s, fup_a, fup_k, fup_fup, Int.reduceAdd, Int.reduceSub, Int.reduceMul, Int.reduceNeg, g8, k1, g10, hna nx h1 r s _ hW a1 hN1]
      have hst := fun (nx : Nat) (s : Int → Int) (Q : PO → PY → Nat → PC → Prop) => @S_starts0 4 nx (fup h1 178 17 (4 + 40 * m)) r s Q hW g11'
      simp (disch := first | assumption | omega) only [st_X8_machineRead, ↓if_pos, ↓if_neg, if_pos, if_neg, ↓reduceIte, true_and, and_true, false_and, and_false, true_or, or_true, false_or, or_false, w32_id, Kv, Kn, fup_s, fup_a, fup_k, fup_fup, Int.reduceAdd, Int.reduceSub, Int.reduceMul, Int.reduceNeg, hst]
      exact hKK
    · have hR : RT (fup h1 178 17 (4 + 40 * m)) b n (j + 1) := rt_fr hT1r (fup_r (by omega)) (fun k k1 k2 => fup_k (by omega))
      simp (disch := first | assumption | omega) only [st_X8_machineRead, ↓if_pos, ↓if_neg, if_pos, if_neg, ↓reduceIte, true_and, and_true, false_and, and_false, true_or, or_true, false_or, or_false, w32_id, Kv, Kn, fup_s, fup_a, fup_k, fup_fup, Int.reduceAdd, Int.reduceSub, Int.reduceMul, Int.reduceNeg, g8, k1, g10, hna nx h1 r s _ hW a1 hN1]
      refine C_starts1 hW hn hn2 hR (by omega) (fun h' w1 w2 w3 => ?_)
      have hKK := Ks m h' k1 rfl (by omega) (rfr_t f1 (rfr_178 (fun a h1 => by rw [w1 a h1, fup_r h1]) (fun k hk => by rw [w2 k (by omega), fup_k (by omega)]))) (by rw [w2 17 (by omega), fup_s]) ⟨w3, ⟨by rw [w2 11 (by omega), fup_k (by omega)]; exact g11, by rw [w2 12 (by omega), fup_k (by omega), q2 12 (by omega)]; exact e12⟩, ⟨by dsimp only; rw [w2 14 (by omega), fup_k (by omega), q2 14 (by omega)]; exact e14, htr⟩, fun i i1 i2 => by dsimp only at i2 ⊢; rw [w1 183 (by omega), fup_r (by omega)]; exact hN1 i i1 i2, fun k k1 k2 => by dsimp only; rw [w1 182 (by omega), fup_r (by omega), q1 182 (by omega)]; exact h2 k k1 k2, hDW⟩
      simp (disch := first | assumption | omega) only [st_X8_machineRead, ↓if_pos, ↓if_neg, if_pos, if_neg, ↓reduceIte, true_and, and_true, false_and, and_false, true_or, or_true, false_or, or_false, w32_id, Kv, Kn, fup_s, fup_a, fup_k, fup_fup, Int.reduceAdd, Int.reduceSub, Int.reduceMul, Int.reduceNeg]
      exact hKK
  · have hff := ff_mk (h := h1) (c := 1)
    have hKK := Kf 1 (ss b n (j + 1)) _ (by unfold pHead; rw [if_pos k1]) (ff_r f1 hff) hff.2.2.1 (by rw [hff.2.2.2]; exact g6)
    simp (disch := first | assumption | omega) only [st_X8_machineRead, ↓if_pos, ↓if_neg, if_pos, if_neg, ↓reduceIte, true_and, and_true, false_and, and_false, true_or, or_true, false_or, or_false, w32_id, Kv, Kn, fup_s, fup_a, fup_k, fup_fup, Int.reduceAdd, Int.reduceSub, Int.reduceMul, Int.reduceNeg, g8, S_fails hW g11]
    exact hKK
theorem S_stateAt {m t : Int} {nx : Nat} {h r : PF} {s : Int → Int} {Q : PO → PY → Nat → PC → Prop} (hW : WFr r) (e17 : h 178 17 = 4 + 40 * m) (hm : 0 ≤ m) (hm2 : m < 4) (ht : 0 ≤ t) (ht2 : t < 1000) : Wp 142 0 [some (pR 178), some (pI t)] [] LY nx (h, r, s) Q ↔ Q (Sum.inl (some (pI (4 + 40 * m + (4 + 6 * t))))) LY nx (h, r, s) := by
  have e : 4 + 40 * m + 4 + 6 * t = 4 + 40 * m + (4 + 6 * t) := by omega
  simp (disch := first | assumption | omega) only [st_X8_stateAt, ↓if_pos, ↓if_neg, if_pos, if_neg, ↓reduceIte, true_and, and_true, false_and, and_false, true_or, or_true, false_or, or_false, w32_id, Kv, Kn, fup_s, fup_a, fup_k, fup_fup, Int.reduceAdd, Int.reduceSub, Int.reduceMul, Int.reduceNeg, e17, e]
theorem C_stateRead {n j m x tr : Int} {b T : Int → Int} {W : Int → List Int} {nx : Nat} {h r : PF} {s : Int → Int} {Q : PO → PY → Nat → PC → Prop} (hW : WFr r) (hn : 0 ≤ n) (hn2 : n ≤ 600) (hS : RSt h b n (j, T, W, tr)) (hm : 0 ≤ m) (hm2 : m < T 1) (hx : x = -1 ∨ x = 0 ∨ x = 1) (e17 : h 178 17 = 4 + 40 * m) (Kf : ∀ (c e : Int) (h' : PF), (pNum b n 0 (gO T m 2 - 1) j = Sum.inl (c, e) ∨ ∃ f, pNum b n 0 (gO T m 2 - 1) j = Sum.inr f ∧ 0 ≤ x ∧ gS T m f x ≠ 0 ∧ c = 2 ∧ e = ss b n j) → FF h h' c → h' 178 12 = e → Q (Sum.inl (some (pI 0))) LY nx (h', r, s)) (Ks : ∀ (f : Int) (h' : PF), pNum b n 0 (gO T m 2 - 1) j = Sum.inr f → (0 ≤ f ∧ f < gO T m 2) → (0 ≤ x → gS T m f x = 0) → RFr h h' → h' 178 13 = f → h' 178 17 = 4 + 40 * m → h' 182 = h 182 → RSt h' b n (j + 1, T, W, tr) → Q (Sum.inl (some (pI 1))) LY nx (h', r, s)) : Wp 143 0 [some (pR 178), some (pI x), none] [] LY nx (h, r, s) Q := by
  obtain ⟨hT, ⟨e11, e12⟩, ⟨e14, htr⟩, hN, h2, hDW⟩ := hS
  dsimp only at hT e14 htr hN h2 hDW
  have hT1 := hDW.2.1
  have hm3 := (hDW.2.2.2.2.2 m hm (by omega)).1 hm2
  have a2 : h 182 (4 + 40 * m + 2) = gO T m 2 := by rw [h2 _ (by omega) (by omega)]; rfl
  have g8 := hT.2.2.2.1
  have g6 := hT.2.1
  by_cases hag : kk b n j = 2 ∧ vv b n j < gO T m 2 ∧ 0 ≤ x ∧ gS T m (vv b n j) x ≠ 0
  · obtain ⟨k2, b1, b2, b3⟩ := hag
    have g9 := hT.2.2.2.2.1 k2
    have hv := vv_ok hn k2
    have ac : h 182 (4 + 40 * m + (4 + 6 * vv b n j) + x) = gS T m (vv b n j) x := by
      rw [h2 _ (by omega) (by omega)]
      unfold gS gO
      congr 1
      omega
    have hff := ff_mk (h := h) (c := 2)
    have hKK := Kf 2 (ss b n j) _ (Or.inr ⟨vv b n j, by unfold pNum; rw [if_neg (show ¬ kk b n j ≠ 2 from fun z => z k2), if_neg (show ¬ (vv b n j < 0 ∨ gO T m 2 - 1 < vv b n j) by omega)], b2, b3, rfl, rfl⟩) hff (by rw [hff.2.2.2]; exact g6)
    simp (disch := first | assumption | omega) only [st_X8_stateRead, ↓if_pos, ↓if_neg, if_pos, if_neg, ↓reduceIte, true_and, and_true, false_and, and_false, true_or, or_true, false_or, or_false, w32_id, Kv, Kn, fup_s, fup_a, fup_k, fup_fup, Int.reduceAdd, Int.reduceSub, Int.reduceMul, Int.reduceNeg, e17, a2, g8, k2, g9, S_stateAt hW e17 hm, ac, S_fails hW e11]
    exact hKK
  · have hgo : Wp 136 0 [some (pR 178), some (pI 0), some (pI (gO T m 2 - 1))] [] LY nx (h, r, s) (Kc 143 61 [some (pR 178), some (pI x), some (pI (gO T m 2))] 64 [] Q) → Wp 143 0 [some (pR 178), some (pI x), none] [] LY nx (h, r, s) Q := fun hKK => by
      by_cases k2 : kk b n j = 2
      · have g9 := hT.2.2.2.2.1 k2
        have hv := vv_ok hn k2
        by_cases b1 : vv b n j < gO T m 2
        · by_cases b2 : 0 ≤ x
          · have b3 : gS T m (vv b n j) x = 0 := by
              by_cases z : gS T m (vv b n j) x = 0
              · exact z
              · exact absurd ⟨k2, b1, b2, z⟩ hag
            have ac : h 182 (4 + 40 * m + (4 + 6 * vv b n j) + x) = gS T m (vv b n j) x := by
              rw [h2 _ (by omega) (by omega)]
              unfold gS gO
              congr 1
              omega
            simp (disch := first | assumption | omega) only [st_X8_stateRead, ↓if_pos, ↓if_neg, if_pos, if_neg, ↓reduceIte, true_and, and_true, false_and, and_false, true_or, or_true, false_or, or_false, w32_id, Kv, Kn, fup_s, fup_a, fup_k, fup_fup, Int.reduceAdd, Int.reduceSub, Int.reduceMul, Int.reduceNeg, e17, a2, g8, k2, g9, S_stateAt hW e17 hm, ac, b3]
            exact hKK
          · skip
            simp (disch := first | assumption | omega) only [st_X8_stateRead, ↓if_pos, ↓if_neg, if_pos, if_neg, ↓reduceIte, true_and, and_true, false_and, and_false, true_or, or_true, false_or, or_false, w32_id, Kv, Kn, fup_s, fup_a, fup_k, fup_fup, Int.reduceAdd, Int.reduceSub, Int.reduceMul, Int.reduceNeg, e17, a2, g8, k2, g9, S_stateAt hW e17 hm]
            exact hKK
        · skip
          simp (disch := first | assumption | omega) only [st_X8_stateRead, ↓if_pos, ↓if_neg, if_pos, if_neg, ↓reduceIte, true_and, and_true, false_and, and_false, true_or, or_true, false_or, or_false, w32_id, Kv, Kn, fup_s, fup_a, fup_k, fup_fup, Int.reduceAdd, Int.reduceSub, Int.reduceMul, Int.reduceNeg, e17, a2, g8, k2, g9, S_stateAt hW e17 hm]
          exact hKK
      · skip
        simp (disch := first | assumption | omega) only [st_X8_stateRead, ↓if_pos, ↓if_neg, if_pos, if_neg, ↓reduceIte, true_and, and_true, false_and, and_false, true_or, or_true, false_or, or_false, w32_id, Kv, Kn, fup_s, fup_a, fup_k, fup_fup, Int.reduceAdd, Int.reduceSub, Int.reduceMul, Int.reduceNeg, e17, a2, g8, S_stateAt hW e17 hm]
        exact hKK
    refine hgo (C_takes hW hn hn2 hT e11 (fun c e h' q1 q2 q3 => ?_) (fun f h' q1 q2 q3 q4 q5 q6 => ?_))
    · have hKK := Kf c e h' (Or.inl q1) q2 q3
      simp (disch := first | assumption | omega) only [st_X8_stateRead, ↓if_pos, ↓if_neg, if_pos, if_neg, ↓reduceIte, true_and, and_true, false_and, and_false, true_or, or_true, false_or, or_false, w32_id, Kv, Kn, fup_s, fup_a, fup_k, fup_fup, Int.reduceAdd, Int.reduceSub, Int.reduceMul, Int.reduceNeg]
      exact hKK
    simp (disch := first | assumption | omega) only [st_X8_stateRead, ↓if_pos, ↓if_neg, if_pos, if_neg, ↓reduceIte, true_and, and_true, false_and, and_false, true_or, or_true, false_or, or_false, w32_id, Kv, Kn, fup_s, fup_a, fup_k, fup_fup, Int.reduceAdd, Int.reduceSub, Int.reduceMul, Int.reduceNeg]
    refine Ks f h' q1 (by omega) (fun b2 => ?_) (rfr_178 q3 (fun k hk => q4 k (by omega) (by omega))) q5 (by rw [q4 17 (by omega) (by omega)]; exact e17) (q3 182 (by omega)) ⟨q6, ⟨by rw [q4 11 (by omega) (by omega)]; exact e11, by rw [q4 12 (by omega) (by omega)]; exact e12⟩, ⟨by dsimp only; rw [q4 14 (by omega) (by omega)]; exact e14, htr⟩, fun i i1 i2 => by dsimp only at i2 ⊢; rw [q3 183 (by omega)]; exact hN i i1 i2, fun k k1 k2 => by dsimp only; rw [q3 182 (by omega)]; exact h2 k k1 k2, hDW⟩
    by_cases k2 : kk b n j = 2
    · unfold pNum at q1
      rw [if_neg (show ¬ kk b n j ≠ 2 from fun z => z k2)] at q1
      by_cases b1 : vv b n j < 0 ∨ gO T m 2 - 1 < vv b n j
      · rw [if_pos b1] at q1; cases q1
      · rw [if_neg b1] at q1
        have e : vv b n j = f := Sum.inr.inj q1
        rw [← e]
        by_cases z : gS T m (vv b n j) x = 0
        · exact z
        · exact absurd ⟨k2, by omega, b2, z⟩ hag
    · unfold pNum at q1
      rw [if_pos k2] at q1; cases q1
theorem C_acceptLine {n j tr : Int} {b T : Int → Int} {W : Int → List Int} {pLn : PRs} {nx : Nat} {h r : PF} {s : Int → Int} {Q : PO → PY → Nat → PC → Prop} (hW : WFr r) (hn : 0 ≤ n) (hn2 : n ≤ 600) (hS : RSt h b n (j, T, W, tr)) (hk : kk b n j ≠ 0) (hpl : pLn = match pHead b n j T W with | Sum.inl e => Sum.inl e | Sum.inr mf => pAcc b n j T W tr mf.1 mf.2) (Kf : ∀ (c e : Int) (h' : PF), pLn = Sum.inl (c, e) → RFr h h' → h' 178 11 = c → h' 178 12 = e → Q (Sum.inl (some (pI 0))) LY nx (h', r, s)) (Ks : ∀ (S' : PSt) (h' : PF), pLn = Sum.inr S' → RFr h h' → RSt h' b n S' → Q (Sum.inl (some (pI 1))) LY nx (h', r, s)) : Wp 145 0 [some (pR 178)] [] LY nx (h, r, s) Q := by
  have hS0 := hS
  obtain ⟨hT, ⟨e11, e12⟩, ⟨e14, htr⟩, hN, h2, hDW⟩ := hS
  dsimp only at hT e14 htr hN h2 hDW
  have hpm : ∀ X : PRs, (match pHead b n j T W with | Sum.inl e => Sum.inl e | Sum.inr mf => pAcc b n j T W tr mf.1 mf.2) = X → pLn = X := fun X z => by
    rw [hpl]
    exact z
  simp (disch := first | assumption | omega) only [st_X8_acceptLine, ↓if_pos, ↓if_neg, if_pos, if_neg, ↓reduceIte, true_and, and_true, false_and, and_false, true_or, or_true, false_or, or_false, w32_id, Kv, Kn, fup_s, fup_a, fup_k, fup_fup, Int.reduceAdd, Int.reduceSub, Int.reduceMul, Int.reduceNeg]
  refine C_machineRead hW hn hn2 hS0 hk (fun c e h' q1 q2 q3 q4 => ?_) (fun m h1 q1 q2 q3 f1 q5 hS1 => ?_)
  · have hKK := Kf c e h' (hpm _ (by rw [q1])) q2 q3 q4
    simp (disch := first | assumption | omega) only [st_X8_acceptLine, ↓if_pos, ↓if_neg, if_pos, if_neg, ↓reduceIte, true_and, and_true, false_and, and_false, true_or, or_true, false_or, or_false, w32_id, Kv, Kn, fup_s, fup_a, fup_k, fup_fup, Int.reduceAdd, Int.reduceSub, Int.reduceMul, Int.reduceNeg]
    exact hKK
  have hph : ∀ X, (match pNum b n 0 (gO T m 2 - 1) (j + 1 + 1) with | Sum.inl e => Sum.inl e | Sum.inr f => Sum.inr (m, f)) = X → pHead b n j T W = X := fun X z => by
    unfold pHead
    rw [if_neg (show ¬ kk b n (j + 1) ≠ 1 from fun y => y q1), q2, if_neg (show ¬ m = -1 by omega)]
    exact z
  simp (disch := first | assumption | omega) only [st_X8_acceptLine, ↓if_pos, ↓if_neg, if_pos, if_neg, ↓reduceIte, true_and, and_true, false_and, and_false, true_or, or_true, false_or, or_false, w32_id, Kv, Kn, fup_s, fup_a, fup_k, fup_fup, Int.reduceAdd, Int.reduceSub, Int.reduceMul, Int.reduceNeg]
  refine C_stateRead hW hn hn2 hS1 q3.1 q3.2 (by omega) q5 (fun c e h' w1 w2 w3 => ?_) (fun f h2' w1 w2 w3 f2 w5 w6 w7 hS2 => ?_)
  · have hKK := Kf c e h' (hpm _ (by
      rcases w1 with z | ⟨f, z1, z2, z3, z4, z5⟩
      · rw [hph _ (by rw [z])]
      · rw [hph _ (by rw [z1])]
        show pAcc b n j T W tr m f = _
        unfold pAcc
        rw [if_pos z3, z4, z5])) (ff_r f1 w2) w2.2.2.1 w3
    simp (disch := first | assumption | omega) only [st_X8_acceptLine, ↓if_pos, ↓if_neg, if_pos, if_neg, ↓reduceIte, true_and, and_true, false_and, and_false, true_or, or_true, false_or, or_false, w32_id, Kv, Kn, fup_s, fup_a, fup_k, fup_fup, Int.reduceAdd, Int.reduceSub, Int.reduceMul, Int.reduceNeg]
    exact hKK
  · obtain ⟨hT2, ⟨t11, t12⟩, ⟨t14, _⟩, hN2, h22, _⟩ := hS2
    dsimp only at hT2 t14 hN2 h22
    have hT1 := hDW.2.1
    have hm3 := (hDW.2.2.2.2.2 m q3.1 (by omega)).1 q3.2
    have hKK := Ks (j + 1 + 1 + 1, uC T m f 0 1, W, tr) (fup h2' 182 (4 + 40 * m + (4 + 6 * f)) 1) (hpm _ (by
      rw [hph _ (by rw [w1])]
      show pAcc b n j T W tr m f = _
      unfold pAcc
      rw [if_neg (fun z => z (w3 (by omega)))])) (rfr_t f1 (rfr_t f2 ⟨fun x x1 x2 x3 => fup_r x2, fun k hk => fup_a (by omega)⟩)) ⟨rt_fr hT2 (fup_r (by omega)) (fun k k1 k2 => fup_a (by omega)), ⟨by rw [fup_a (by omega)]; exact t11, by rw [fup_a (by omega)]; exact t12⟩, ⟨by dsimp only; rw [fup_a (by omega)]; exact t14, htr⟩, fun i i1 i2 => by dsimp only at i2 ⊢; rw [uC_lo q3.1 w2.1 (by omega) (by omega)] at i2; rw [fup_r (by omega)]; exact hN2 i i1 i2, fun k k1 k2 => ?_, dwf_uC hDW q3.1 q3.2 w2.1 (by omega) (by omega) (by omega) (by omega) (fun _ => by omega) (fun z => by omega)⟩
    · simp (disch := first | assumption | omega) only [st_X8_acceptLine, ↓if_pos, ↓if_neg, if_pos, if_neg, ↓reduceIte, true_and, and_true, false_and, and_false, true_or, or_true, false_or, or_false, w32_id, Kv, Kn, fup_s, fup_a, fup_k, fup_fup, Int.reduceAdd, Int.reduceSub, Int.reduceMul, Int.reduceNeg, w5, S_stateAt hW w6 q3.1, Int.add_zero]
      exact hKK
    · dsimp only
      unfold uC up1
      by_cases z : k = 4 + 40 * m + (4 + 6 * f)
      · rw [z, fup_s, if_pos (by omega)]
      · rw [fup_k z, if_neg (by omega)]; exact h22 k k1 k2
theorem C_tireLine {n j tr : Int} {b T : Int → Int} {W : Int → List Int} {pLn : PRs} {nx : Nat} {h r : PF} {s : Int → Int} {Q : PO → PY → Nat → PC → Prop} (hW : WFr r) (hn : 0 ≤ n) (hn2 : n ≤ 600) (hS : RSt h b n (j, T, W, tr)) (hk : kk b n j ≠ 0) (hpl : pLn = match pHead b n j T W with | Sum.inl e => Sum.inl e | Sum.inr mf => pTire b n j T W tr mf.1 mf.2) (Kf : ∀ (c e : Int) (h' : PF), pLn = Sum.inl (c, e) → RFr h h' → h' 178 11 = c → h' 178 12 = e → Q (Sum.inl (some (pI 0))) LY nx (h', r, s)) (Ks : ∀ (S' : PSt) (h' : PF), pLn = Sum.inr S' → RFr h h' → RSt h' b n S' → Q (Sum.inl (some (pI 1))) LY nx (h', r, s)) : Wp 146 0 [some (pR 178)] [] LY nx (h, r, s) Q := by
  have hS0 := hS
  obtain ⟨hT, ⟨e11, e12⟩, ⟨e14, htr⟩, hN, h2, hDW⟩ := hS
  dsimp only at hT e14 htr hN h2 hDW
  have hpm : ∀ X : PRs, (match pHead b n j T W with | Sum.inl e => Sum.inl e | Sum.inr mf => pTire b n j T W tr mf.1 mf.2) = X → pLn = X := fun X z => by
    rw [hpl]
    exact z
  simp (disch := first | assumption | omega) only [st_X8_tireLine, ↓if_pos, ↓if_neg, if_pos, if_neg, ↓reduceIte, true_and, and_true, false_and, and_false, true_or, or_true, false_or, or_false, w32_id, Kv, Kn, fup_s, fup_a, fup_k, fup_fup, Int.reduceAdd, Int.reduceSub, Int.reduceMul, Int.reduceNeg]
  refine C_machineRead hW hn hn2 hS0 hk (fun c e h' q1 q2 q3 q4 => ?_) (fun m h1 q1 q2 q3 f1 q5 hS1 => ?_)
  · have hKK := Kf c e h' (hpm _ (by rw [q1])) q2 q3 q4
    simp (disch := first | assumption | omega) only [st_X8_tireLine, ↓if_pos, ↓if_neg, if_pos, if_neg, ↓reduceIte, true_and, and_true, false_and, and_false, true_or, or_true, false_or, or_false, w32_id, Kv, Kn, fup_s, fup_a, fup_k, fup_fup, Int.reduceAdd, Int.reduceSub, Int.reduceMul, Int.reduceNeg]
    exact hKK
  have hph : ∀ X, (match pNum b n 0 (gO T m 2 - 1) (j + 1 + 1) with | Sum.inl e => Sum.inl e | Sum.inr f => Sum.inr (m, f)) = X → pHead b n j T W = X := fun X z => by
    unfold pHead
    rw [if_neg (show ¬ kk b n (j + 1) ≠ 1 from fun y => y q1), q2, if_neg (show ¬ m = -1 by omega)]
    exact z
  simp (disch := first | assumption | omega) only [st_X8_tireLine, ↓if_pos, ↓if_neg, if_pos, if_neg, ↓reduceIte, true_and, and_true, false_and, and_false, true_or, or_true, false_or, or_false, w32_id, Kv, Kn, fup_s, fup_a, fup_k, fup_fup, Int.reduceAdd, Int.reduceSub, Int.reduceMul, Int.reduceNeg]
  refine C_stateRead hW hn hn2 hS1 q3.1 q3.2 (by omega) q5 (fun c e h' w1 w2 w3 => ?_) (fun f h2' w1 w2 w3 f2 w5 w6 w7 hS2 => ?_)
  · have hKK := Kf c e h' (hpm _ (by
      rcases w1 with z | ⟨f, z1, z2, z3, z4, z5⟩
      · rw [hph _ (by rw [z])]
      · rw [hph _ (by rw [z1])]
        show pTire b n j T W tr m f = _
        unfold pTire
        rw [if_pos z3, z4, z5])) (ff_r f1 w2) w2.2.2.1 w3
    simp (disch := first | assumption | omega) only [st_X8_tireLine, ↓if_pos, ↓if_neg, if_pos, if_neg, ↓reduceIte, true_and, and_true, false_and, and_false, true_or, or_true, false_or, or_false, w32_id, Kv, Kn, fup_s, fup_a, fup_k, fup_fup, Int.reduceAdd, Int.reduceSub, Int.reduceMul, Int.reduceNeg]
    exact hKK
  · obtain ⟨hT2, ⟨t11, t12⟩, ⟨t14, _⟩, hN2, h22, _⟩ := hS2
    dsimp only at hT2 t14 hN2 h22
    have hT1 := hDW.2.1
    have hm3 := (hDW.2.2.2.2.2 m q3.1 (by omega)).1 q3.2
    have hpt : ∀ X : PRs, (match pNum b n 1 99 (j + 1 + 1 + 1) with
        | Sum.inl e => Sum.inl e
        | Sum.inr t => Sum.inr (j + 1 + 1 + 1 + 1, uC T m f 1 t, W, tr)) = X → pLn = X := fun X z => hpm _ (by
      rw [hph _ (by rw [w1])]
      show pTire b n j T W tr m f = _
      unfold pTire
      rw [if_neg (fun z => z (w3 (by omega)))]
      exact z)
    simp (disch := first | assumption | omega) only [st_X8_tireLine, ↓if_pos, ↓if_neg, if_pos, if_neg, ↓reduceIte, true_and, and_true, false_and, and_false, true_or, or_true, false_or, or_false, w32_id, Kv, Kn, fup_s, fup_a, fup_k, fup_fup, Int.reduceAdd, Int.reduceSub, Int.reduceMul, Int.reduceNeg, w5, S_stateAt hW w6 q3.1]
    refine C_lays hW hn hn2 hT2 t11 (by omega) (by omega) (fun c e h' u1 u2 u3 => ?_) (fun v h' u1 u2 u3 u4 u5 u6 => ?_)
    · have hKK := Kf c e h' (hpt _ (by rw [u1])) (ff_r (rfr_t f1 f2) u2) u2.2.2.1 u3
      simp (disch := first | assumption | omega) only [st_X8_tireLine, ↓if_pos, ↓if_neg, if_pos, if_neg, ↓reduceIte, true_and, and_true, false_and, and_false, true_or, or_true, false_or, or_false, w32_id, Kv, Kn, fup_s, fup_a, fup_k, fup_fup, Int.reduceAdd, Int.reduceSub, Int.reduceMul, Int.reduceNeg]
      exact hKK
    · have hKK := Ks (j + 1 + 1 + 1 + 1, uC T m f 1 v, W, tr) h' (hpt _ (by rw [u1])) (rfr_t f1 (rfr_t f2 ⟨fun x x1 x2 x3 => u3 x x1 x2, fun k hk => u5 k (by omega) (by omega)⟩)) ⟨u6, ⟨by rw [u5 11 (by omega) (by omega)]; exact t11, by rw [u5 12 (by omega) (by omega)]; exact t12⟩, ⟨by dsimp only; rw [u5 14 (by omega) (by omega)]; exact t14, htr⟩, fun i i1 i2 => by dsimp only at i2 ⊢; rw [uC_lo q3.1 w2.1 (by omega) (by omega)] at i2; rw [u3 183 (by omega) (by omega)]; exact hN2 i i1 i2, fun k k1 k2 => ?_, dwf_uC hDW q3.1 q3.2 w2.1 (by omega) (by omega) (by omega) (by omega) (fun z => by omega) (fun z => by omega)⟩
      · simp (disch := first | assumption | omega) only [st_X8_tireLine, ↓if_pos, ↓if_neg, if_pos, if_neg, ↓reduceIte, true_and, and_true, false_and, and_false, true_or, or_true, false_or, or_false, w32_id, Kv, Kn, fup_s, fup_a, fup_k, fup_fup, Int.reduceAdd, Int.reduceSub, Int.reduceMul, Int.reduceNeg]
        exact hKK
      · dsimp only
        rw [u4]
        unfold uC up1
        by_cases z : k = 4 + 40 * m + (4 + 6 * f + 1)
        · rw [if_pos (by omega), if_pos (by omega)]
        · rw [if_neg (by omega), if_neg (by omega)]; exact h22 k k1 k2
theorem C_turnLine {n j tr : Int} {b T : Int → Int} {W : Int → List Int} {nx : Nat} {h r : PF} {s : Int → Int} {Q : PO → PY → Nat → PC → Prop} (hW : WFr r) (hn : 0 ≤ n) (hn2 : n ≤ 600) (hS : RSt h b n (j, T, W, tr)) (hk : kk b n j ≠ 0) (Kf : ∀ (c e : Int) (h' : PF), pTurn b n j T W tr = Sum.inl (c, e) → RFr h h' → h' 178 11 = c → h' 178 12 = e → Q (Sum.inl (some (pI 0))) LY nx (h', r, s)) (Ks : ∀ (S' : PSt) (h' : PF), pTurn b n j T W tr = Sum.inr S' → RFr h h' → RSt h' b n S' → Q (Sum.inl (some (pI 1))) LY nx (h', r, s)) : Wp 147 0 [some (pR 178)] [] LY nx (h, r, s) Q := by
  have hS0 := hS
  obtain ⟨hT, ⟨e11, e12⟩, ⟨e14, htr⟩, hN, h2, hDW⟩ := hS
  dsimp only at hT e14 htr hN h2 hDW
  have g6 := hT.2.1
  by_cases ht : tr = 0
  · have e0 : h 178 14 = 0 := by omega
    simp (disch := first | assumption | omega) only [st_X8_turnLine, ↓if_pos, ↓if_neg, if_pos, if_neg, ↓reduceIte, true_and, and_true, false_and, and_false, true_or, or_true, false_or, or_false, w32_id, Kv, Kn, fup_s, fup_a, fup_k, fup_fup, Int.reduceAdd, Int.reduceSub, Int.reduceMul, Int.reduceNeg, e0]
    refine C_starts1 hW hn hn2 hT hk (fun h1 q1 q2 hT1 => ?_)
    have g11 : fup h1 178 14 1 178 11 = 0 := by rw [fup_k (by omega), q2 11 (by omega)]; exact e11
    have hT1' : RT (fup h1 178 14 1) b n (j + 1) := rt_fr hT1 (fup_r (by omega)) (fun k k1 k2 => fup_k (by omega))
    have f1 : RFr h (fup h1 178 14 1) := rfr_178 (fun a h1 => by rw [fup_r h1, q1 a h1]) (fun k hk => by rw [fup_k (by omega), q2 k (by omega)])
    have hpt : ∀ X, (match pNum b n 1 20 (j + 1) with
        | Sum.inl e => Sum.inl e
        | Sum.inr a => match pNum b n 0 99 (j + 1 + 1) with
          | Sum.inl e => Sum.inl e
          | Sum.inr c => Sum.inr (j + 1 + 1 + 1, up1 (up1 T 2 a) 3 c, W, 1)) = X → pTurn b n j T W tr = X := fun X z => by
      unfold pTurn
      rw [if_neg (fun z => z ht)]
      exact z
    simp (disch := first | assumption | omega) only [st_X8_turnLine, ↓if_pos, ↓if_neg, if_pos, if_neg, ↓reduceIte, true_and, and_true, false_and, and_false, true_or, or_true, false_or, or_false, w32_id, Kv, Kn, fup_s, fup_a, fup_k, fup_fup, Int.reduceAdd, Int.reduceSub, Int.reduceMul, Int.reduceNeg]
    refine C_lays hW hn hn2 hT1' g11 (by omega) (by omega) (fun c e h' u1 u2 u3 => ?_) (fun a h3 u1 u2 u3 u4 u5 hT3 => ?_)
    · have hKK := Kf c e h' (hpt _ (by rw [u1])) (ff_r f1 u2) u2.2.2.1 u3
      simp (disch := first | assumption | omega) only [st_X8_turnLine, ↓if_pos, ↓if_neg, if_pos, if_neg, ↓reduceIte, true_and, and_true, false_and, and_false, true_or, or_true, false_or, or_false, w32_id, Kv, Kn, fup_s, fup_a, fup_k, fup_fup, Int.reduceAdd, Int.reduceSub, Int.reduceMul, Int.reduceNeg]
      exact hKK
    · have f3 : RFr h h3 := rfr_t f1 ⟨fun x x1 x2 x3 => u3 x x1 x2, fun k hk => u5 k (by omega) (by omega)⟩
      simp (disch := first | assumption | omega) only [st_X8_turnLine, ↓if_pos, ↓if_neg, if_pos, if_neg, ↓reduceIte, true_and, and_true, false_and, and_false, true_or, or_true, false_or, or_false, w32_id, Kv, Kn, fup_s, fup_a, fup_k, fup_fup, Int.reduceAdd, Int.reduceSub, Int.reduceMul, Int.reduceNeg]
      refine C_lays hW hn hn2 hT3 (by rw [u5 11 (by omega) (by omega)]; exact g11) (by omega) (by omega) (fun c e h' w1 w2 w3 => ?_) (fun c h' w1 w2 w3 w4 w5 hT4 => ?_)
      · have hKK := Kf c e h' (hpt _ (by rw [u1]; dsimp only; rw [w1])) (ff_r f3 w2) w2.2.2.1 w3
        simp (disch := first | assumption | omega) only [st_X8_turnLine, ↓if_pos, ↓if_neg, if_pos, if_neg, ↓reduceIte, true_and, and_true, false_and, and_false, true_or, or_true, false_or, or_false, w32_id, Kv, Kn, fup_s, fup_a, fup_k, fup_fup, Int.reduceAdd, Int.reduceSub, Int.reduceMul, Int.reduceNeg]
        exact hKK
      · have hKK := Ks (j + 1 + 1 + 1, up1 (up1 T 2 a) 3 c, W, 1) h' (hpt _ (by rw [u1]; dsimp only; rw [w1])) (rfr_t f3 ⟨fun x x1 x2 x3 => w3 x x1 x2, fun k hk => w5 k (by omega) (by omega)⟩) ⟨hT4, ⟨by rw [w5 11 (by omega) (by omega), u5 11 (by omega) (by omega)]; exact g11, by rw [w5 12 (by omega) (by omega), u5 12 (by omega) (by omega), fup_k (by omega), q2 12 (by omega)]; exact e12⟩, ⟨by dsimp only; rw [w5 14 (by omega) (by omega), u5 14 (by omega) (by omega), fup_s], Or.inr rfl⟩, fun i i1 i2 => by dsimp only at i2 ⊢; rw [up1_k (by omega), up1_k (by omega)] at i2; rw [w3 183 (by omega) (by omega), u3 183 (by omega) (by omega), fup_r (by omega), q1 183 (by omega)]; exact hN i i1 i2, fun k k1 k2 => ?_, dwf_turn hDW (by omega) (by omega)⟩
        · simp (disch := first | assumption | omega) only [st_X8_turnLine, ↓if_pos, ↓if_neg, if_pos, if_neg, ↓reduceIte, true_and, and_true, false_and, and_false, true_or, or_true, false_or, or_false, w32_id, Kv, Kn, fup_s, fup_a, fup_k, fup_fup, Int.reduceAdd, Int.reduceSub, Int.reduceMul, Int.reduceNeg]
          exact hKK
        · dsimp only
          rw [w4, u4, fup_r (by omega), q1 182 (by omega)]
          unfold up1
          have := h2 k k1 k2
          (repeat' split) <;> first | rfl | exact this
  · have e0 : h 178 14 = 1 := by omega
    have hff := ff_mk (h := h) (c := 2)
    have hKK := Kf 2 (ss b n j) _ (by unfold pTurn; rw [if_pos ht]) (ff_r rfr_0 hff) hff.2.2.1 (by rw [hff.2.2.2]; exact g6)
    simp (disch := first | assumption | omega) only [st_X8_turnLine, ↓if_pos, ↓if_neg, if_pos, if_neg, ↓reduceIte, true_and, and_true, false_and, and_false, true_or, or_true, false_or, or_false, w32_id, Kv, Kn, fup_s, fup_a, fup_k, fup_fup, Int.reduceAdd, Int.reduceSub, Int.reduceMul, Int.reduceNeg, e0, S_starts0 hW e11]
    exact hKK
theorem lt1_len {x : List Int} : x.length = 1 → Dg x → lt1 x = N256 x - 97 ∧ 97 ≤ N256 x ∧ N256 x ≤ 122 := fun h hd => by
  match x, h, hd with
  | [d], _, hd =>
    have := hd.1
    show d - 1 = 0 * 256 + (d + 96) - 97 ∧ 97 ≤ 0 * 256 + (d + 96) ∧ 0 * 256 + (d + 96) ≤ 122
    omega
theorem lt1_no {x : List Int} : x.length ≠ 1 → lt1 x = -1 := fun h => by
  match x, h with
  | [], _ => rfl
  | [d], h => exact absurd rfl h
  | _ :: _ :: _, _ => rfl
theorem C_goLine {n j tr : Int} {b T : Int → Int} {W : Int → List Int} {pLn : PRs} {nx : Nat} {h r : PF} {s : Int → Int} {Q : PO → PY → Nat → PC → Prop} (hW : WFr r) (hn : 0 ≤ n) (hn2 : n ≤ 600) (hS : RSt h b n (j, T, W, tr)) (hk : kk b n j ≠ 0) (hpl : pLn = match pHead b n j T W with | Sum.inl e => Sum.inl e | Sum.inr mf => pGo b n j T W tr mf.1 mf.2) (Kf : ∀ (c e : Int) (h' : PF), pLn = Sum.inl (c, e) → RFr h h' → h' 178 11 = c → h' 178 12 = e → Q (Sum.inl (some (pI 0))) LY nx (h', r, s)) (Ks : ∀ (S' : PSt) (h' : PF), pLn = Sum.inr S' → RFr h h' → RSt h' b n S' → Q (Sum.inl (some (pI 1))) LY nx (h', r, s)) : Wp 144 0 [some (pR 178), none, none, none] [] LY nx (h, r, s) Q := by
  have hS0 := hS
  obtain ⟨hT, ⟨e11, e12⟩, ⟨e14, htr⟩, hN, h2, hDW⟩ := hS
  dsimp only at hT e14 htr hN h2 hDW
  have hpm : ∀ X : PRs, (match pHead b n j T W with | Sum.inl e => Sum.inl e | Sum.inr mf => pGo b n j T W tr mf.1 mf.2) = X → pLn = X := fun X z => by
    rw [hpl]
    exact z
  simp (disch := first | assumption | omega) only [st_X8_goLine_0, st_X8_goLine_1, ↓if_pos, ↓if_neg, if_pos, if_neg, ↓reduceIte, true_and, and_true, false_and, and_false, true_or, or_true, false_or, or_false, w32_id, Kv, Kn, fup_s, fup_a, fup_k, fup_fup, Int.reduceAdd, Int.reduceSub, Int.reduceMul, Int.reduceNeg]
  refine C_machineRead hW hn hn2 hS0 hk (fun c e h' q1 q2 q3 q4 => ?_) (fun m h1 q1 q2 q3 f1 q5 hS1 => ?_)
  · have hKK := Kf c e h' (hpm _ (by rw [q1])) q2 q3 q4
    simp (disch := first | assumption | omega) only [st_X8_goLine_0, st_X8_goLine_1, ↓if_pos, ↓if_neg, if_pos, if_neg, ↓reduceIte, true_and, and_true, false_and, and_false, true_or, or_true, false_or, or_false, w32_id, Kv, Kn, fup_s, fup_a, fup_k, fup_fup, Int.reduceAdd, Int.reduceSub, Int.reduceMul, Int.reduceNeg]
    exact hKK
  have hph : ∀ X, (match pNum b n 0 (gO T m 2 - 1) (j + 1 + 1) with | Sum.inl e => Sum.inl e | Sum.inr f => Sum.inr (m, f)) = X → pHead b n j T W = X := fun X z => by
    unfold pHead
    rw [if_neg (show ¬ kk b n (j + 1) ≠ 1 from fun y => y q1), q2, if_neg (show ¬ m = -1 by omega)]
    exact z
  simp (disch := first | assumption | omega) only [st_X8_goLine_0, st_X8_goLine_1, ↓if_pos, ↓if_neg, if_pos, if_neg, ↓reduceIte, true_and, and_true, false_and, and_false, true_or, or_true, false_or, or_false, w32_id, Kv, Kn, fup_s, fup_a, fup_k, fup_fup, Int.reduceAdd, Int.reduceSub, Int.reduceMul, Int.reduceNeg]
  refine C_stateRead hW hn hn2 hS1 q3.1 q3.2 (by omega) q5 (fun c e h' w1 w2 w3 => ?_) (fun f h2' w1 w2 w3 f2 w5 w6 w7 hS2 => ?_)
  · have hKK := Kf c e h' (hpm _ (by
      rcases w1 with z | ⟨f, z1, z2, z3, z4, z5⟩
      · rw [hph _ (by rw [z])]
      · exact absurd z2 (by omega))) (ff_r f1 w2) w2.2.2.1 w3
    simp (disch := first | assumption | omega) only [st_X8_goLine_0, st_X8_goLine_1, ↓if_pos, ↓if_neg, if_pos, if_neg, ↓reduceIte, true_and, and_true, false_and, and_false, true_or, or_true, false_or, or_false, w32_id, Kv, Kn, fup_s, fup_a, fup_k, fup_fup, Int.reduceAdd, Int.reduceSub, Int.reduceMul, Int.reduceNeg]
    exact hKK
  have hS20 := hS2
  obtain ⟨hT2, ⟨t11, t12⟩, ⟨t14, _⟩, hN2, h22, _⟩ := hS2
  dsimp only at hT2 t14 hN2 h22
  have hT20 := hT2
  obtain ⟨b5, b6, b7, b8, b9, b10, bA, bB⟩ := hT2
  have hr := rt_al hn hn2 bA
  have hT0 := hDW.1
  have hT1 := hDW.2.1
  have hm3 := (hDW.2.2.2.2.2 m q3.1 (by omega)).1 q3.2
  have c0 : h2' 182 0 = T 0 := h22 0 (by omega) (by omega)
  have hpg : ∀ X : PRs, pGo b n j T W tr m f = X → pLn = X := fun X z => hpm _ (by
    rw [hph _ (by rw [w1])]
    exact z)
  by_cases k1 : kk b n (j + 1 + 1 + 1) = 1
  · have g10 := b10 k1
    have hw := ww_ok hn k1
    have hlen : (ww b n (j + 1 + 1 + 1)).length = (tE b n (tP b n (j + 1 + 1 + 1).toNat) - ss b n (j + 1 + 1 + 1)).toNat := wd_len _
    have hpg2 : ¬ (0 ≤ lt1 (ww b n (j + 1 + 1 + 1)) ∧ lt1 (ww b n (j + 1 + 1 + 1)) < T 0) → pLn = Sum.inl (3, ss b n (j + 1 + 1 + 1)) := fun z => hpg _ (by
      unfold pGo
      rw [if_neg (fun y => y k1), if_pos z])
    by_cases hl : (0 ≤ lt1 (ww b n (j + 1 + 1 + 1)) ∧ lt1 (ww b n (j + 1 + 1 + 1)) < T 0)
    · have hl1 : (ww b n (j + 1 + 1 + 1)).length = 1 := by
        by_cases z : (ww b n (j + 1 + 1 + 1)).length = 1
        · exact z
        · rw [lt1_no z] at hl; omega
      have hlt := lt1_len hl1 hw.1
      have hll := hl.1
      have hll2 := hl.2
      have eE : tE b n (tP b n (j + 1 + 1 + 1).toNat) = ss b n (j + 1 + 1 + 1) + 1 := by omega
      have hpg3 : ∀ X : PRs, (if gS T m f (2 + lt1 (ww b n (j + 1 + 1 + 1))) ≠ 0 then Sum.inl (2, ss b n (j + 1 + 1 + 1)) else match pNum b n 0 (gO T m 2 - 1) (j + 1 + 1 + 1 + 1) with
        | Sum.inl e => Sum.inl e
        | Sum.inr t => Sum.inr (j + 1 + 1 + 1 + 1 + 1, uC T m f (2 + lt1 (ww b n (j + 1 + 1 + 1))) (t + 1), W, tr)) = X → pLn = X := fun X z => hpg _ (by
        unfold pGo
        rw [if_neg (fun y => y k1), if_neg (fun y => y hl)]
        exact z)
      clear hpg2 hpg
      have ep := w32_id (x := N256 (ww b n (j + 1 + 1 + 1))) (by omega) (by omega)
      have e97 : N256 (ww b n (j + 1 + 1 + 1)) - 97 = lt1 (ww b n (j + 1 + 1 + 1)) := by omega
      generalize lt1 (ww b n (j + 1 + 1 + 1)) = l at *
      have ac : h2' 182 (4 + 40 * m + (4 + 6 * f) + 2 + l) = gS T m f (2 + l) := by
        rw [h22 _ (by omega) (by omega)]
        unfold gS gO
        congr 1
        omega
      by_cases hg : gS T m f (2 + l) = 0
      · skip
        simp (disch := first | assumption | omega) only [st_X8_goLine_0, st_X8_goLine_1, ↓if_pos, ↓if_neg, if_pos, if_neg, ↓reduceIte, true_and, and_true, false_and, and_false, true_or, or_true, false_or, or_false, w32_id, Kv, Kn, fup_s, fup_a, fup_k, fup_fup, Int.reduceAdd, Int.reduceSub, Int.reduceMul, Int.reduceNeg, w5, b8, k1, b6, b7, eE, g10, ep, e97, c0, S_within hW, S_stateAt hW w6 q3.1, ac, hg, show ss b n (j + 1 + 1 + 1) + 1 - ss b n (j + 1 + 1 + 1) = 1 by omega]
        refine C_starts1 hW hn hn2 hT20 (by omega) (fun h4 u1 u2 hT4 => ?_)
        have hS4 : RSt h4 b n (j + 1 + 1 + 1 + 1, T, W, tr) := ⟨hT4, ⟨by rw [u2 11 (by omega)]; exact t11, by rw [u2 12 (by omega)]; exact t12⟩, ⟨by dsimp only; rw [u2 14 (by omega)]; exact t14, htr⟩, fun i i1 i2 => by dsimp only at i2 ⊢; rw [u1 183 (by omega)]; exact hN2 i i1 i2, fun k k1 k2 => by dsimp only; rw [u1 182 (by omega)]; exact h22 k k1 k2, hDW⟩
        have f4 : RFr h h4 := rfr_t f1 (rfr_t f2 (rfr_178 u1 (fun k hk => u2 k (by omega))))
        simp (disch := first | assumption | omega) only [st_X8_goLine_0, st_X8_goLine_1, ↓if_pos, ↓if_neg, if_pos, if_neg, ↓reduceIte, true_and, and_true, false_and, and_false, true_or, or_true, false_or, or_false, w32_id, Kv, Kn, fup_s, fup_a, fup_k, fup_fup, Int.reduceAdd, Int.reduceSub, Int.reduceMul, Int.reduceNeg]
        refine C_stateRead hW hn hn2 hS4 q3.1 q3.2 (by omega) (by rw [u2 17 (by omega)]; exact w6) (fun c e h' x1 x2 x3 => ?_) (fun t h5 x1 x2 x3 f5 x5 x6 x7 hS5 => ?_)
        · have hKK := Kf c e h' (hpg3 _ (by
            rw [if_neg (fun z => z hg)]
            rcases x1 with z | ⟨f, z1, z2, z3, z4, z5⟩
            · rw [z]
            · exact absurd z2 (by omega))) (ff_r f4 x2) x2.2.2.1 x3
          simp (disch := first | assumption | omega) only [st_X8_goLine_0, st_X8_goLine_1, ↓if_pos, ↓if_neg, if_pos, if_neg, ↓reduceIte, true_and, and_true, false_and, and_false, true_or, or_true, false_or, or_false, w32_id, Kv, Kn, fup_s, fup_a, fup_k, fup_fup, Int.reduceAdd, Int.reduceSub, Int.reduceMul, Int.reduceNeg]
          exact hKK
        · obtain ⟨hT5, ⟨s11, s12⟩, ⟨s14, _⟩, hN5, h25, _⟩ := hS5
          dsimp only at hT5 s14 hN5 h25
          have hKK := Ks (j + 1 + 1 + 1 + 1 + 1, uC T m f (2 + l) (t + 1), W, tr) (fup h5 182 (4 + 40 * m + (4 + 6 * f) + 2 + l) (t + 1)) (hpg3 _ (by rw [if_neg (fun z => z hg), x1])) (rfr_t f4 (rfr_t f5 ⟨fun x x1 x2 x3 => fup_r x2, fun k hk => fup_a (by omega)⟩)) ⟨rt_fr hT5 (fup_r (by omega)) (fun k k1 k2 => fup_a (by omega)), ⟨by rw [fup_a (by omega)]; exact s11, by rw [fup_a (by omega)]; exact s12⟩, ⟨by dsimp only; rw [fup_a (by omega)]; exact s14, htr⟩, fun i i1 i2 => by dsimp only at i2 ⊢; rw [uC_lo q3.1 w2.1 (by omega) (by omega)] at i2; rw [fup_r (by omega)]; exact hN5 i i1 i2, fun k k1 k2 => ?_, dwf_uC hDW q3.1 q3.2 w2.1 (by omega) (by omega) (by omega) (by omega) (fun z => by omega) (fun z => by omega)⟩
          · simp (disch := first | assumption | omega) only [st_X8_goLine_0, st_X8_goLine_1, ↓if_pos, ↓if_neg, if_pos, if_neg, ↓reduceIte, true_and, and_true, false_and, and_false, true_or, or_true, false_or, or_false, w32_id, Kv, Kn, fup_s, fup_a, fup_k, fup_fup, Int.reduceAdd, Int.reduceSub, Int.reduceMul, Int.reduceNeg, x5]
            exact hKK
          · dsimp only
            unfold uC up1
            by_cases z : k = 4 + 40 * m + (4 + 6 * f) + 2 + l
            · rw [z, fup_s, if_pos (by omega)]
            · rw [fup_k z, if_neg (by omega)]; exact h25 k k1 k2
      · have hff := ff_mk (h := h2') (c := 2)
        have hKK := Kf 2 (ss b n (j + 1 + 1 + 1)) _ (hpg3 _ (by rw [if_pos hg])) (ff_r (rfr_t f1 f2) hff) hff.2.2.1 (by rw [hff.2.2.2]; exact b6)
        simp (disch := first | assumption | omega) only [st_X8_goLine_0, st_X8_goLine_1, ↓if_pos, ↓if_neg, if_pos, if_neg, ↓reduceIte, true_and, and_true, false_and, and_false, true_or, or_true, false_or, or_false, w32_id, Kv, Kn, fup_s, fup_a, fup_k, fup_fup, Int.reduceAdd, Int.reduceSub, Int.reduceMul, Int.reduceNeg, w5, b8, k1, b6, b7, eE, g10, ep, e97, c0, S_within hW, S_stateAt hW w6 q3.1, ac, S_starts0 hW t11, show ss b n (j + 1 + 1 + 1) + 1 - ss b n (j + 1 + 1 + 1) = 1 by omega]
        rw [b6] at hKK
        exact hKK
    · have hff := ff_mk (h := h2') (c := 3)
      have hKK := Kf 3 (ss b n (j + 1 + 1 + 1)) _ (hpg2 hl) (ff_r (rfr_t f1 f2) hff) hff.2.2.1 (by rw [hff.2.2.2]; exact b6)
      rw [b6] at hKK
      by_cases hl1 : (ww b n (j + 1 + 1 + 1)).length = 1
      · have hlt := lt1_len hl1 hw.1
        have eE : tE b n (tP b n (j + 1 + 1 + 1).toNat) = ss b n (j + 1 + 1 + 1) + 1 := by omega
        have ep := w32_id (x := N256 (ww b n (j + 1 + 1 + 1))) (by omega) (by omega)
        have e97 : N256 (ww b n (j + 1 + 1 + 1)) - 97 = lt1 (ww b n (j + 1 + 1 + 1)) := by omega
        simp (disch := first | assumption | omega) only [st_X8_goLine_0, st_X8_goLine_1, ↓if_pos, ↓if_neg, if_pos, if_neg, ↓reduceIte, true_and, and_true, false_and, and_false, true_or, or_true, false_or, or_false, w32_id, Kv, Kn, fup_s, fup_a, fup_k, fup_fup, Int.reduceAdd, Int.reduceSub, Int.reduceMul, Int.reduceNeg, w5, b8, k1, b6, b7, eE, g10, ep, e97, c0, S_within hW, S_fails hW t11, show ss b n (j + 1 + 1 + 1) + 1 - ss b n (j + 1 + 1 + 1) = 1 by omega]
        exact hKK
      · have eE : tE b n (tP b n (j + 1 + 1 + 1).toNat) - ss b n (j + 1 + 1 + 1) ≠ 1 := by omega
        simp (disch := first | assumption | omega) only [st_X8_goLine_0, st_X8_goLine_1, ↓if_pos, ↓if_neg, if_pos, if_neg, ↓reduceIte, true_and, and_true, false_and, and_false, true_or, or_true, false_or, or_false, w32_id, Kv, Kn, fup_s, fup_a, fup_k, fup_fup, Int.reduceAdd, Int.reduceSub, Int.reduceMul, Int.reduceNeg, w5, b8, k1, b6, b7, c0, S_within hW, S_fails hW t11]
        exact hKK
  · have hff := ff_mk (h := h2') (c := 1)
    have hKK := Kf 1 (ss b n (j + 1 + 1 + 1)) _ (hpg _ (by unfold pGo; rw [if_pos k1])) (ff_r (rfr_t f1 f2) hff) hff.2.2.1 (by rw [hff.2.2.2]; exact b6)
    simp (disch := first | assumption | omega) only [st_X8_goLine_0, st_X8_goLine_1, ↓if_pos, ↓if_neg, if_pos, if_neg, ↓reduceIte, true_and, and_true, false_and, and_false, true_or, or_true, false_or, or_false, w32_id, Kv, Kn, fup_s, fup_a, fup_k, fup_fup, Int.reduceAdd, Int.reduceSub, Int.reduceMul, Int.reduceNeg, w5, b8, S_fails hW t11]
    exact hKK
