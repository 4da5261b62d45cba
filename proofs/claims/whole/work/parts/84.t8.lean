/-! TEXT, THE REFERENCE: its leaves -/
def RT (h : PF) (b : Int → Int) (n j : Int) : Prop := h 178 5 = n ∧ h 178 6 = ss b n j ∧ h 178 7 = tE b n (tP b n j.toNat) ∧ h 178 8 = kk b n j ∧ (kk b n j = 2 → h 178 9 = vv b n j) ∧ (kk b n j = 1 → h 178 10 = N256 (ww b n j)) ∧ Al b n j ∧ ∀ k, 0 ≤ k → k < n → h 181 k = b k ∧ -128 ≤ b k ∧ b k ≤ 127
def RFr (h h' : PF) : Prop := (∀ a, a ≠ 178 → a ≠ 182 → a ≠ 183 → h' a = h a) ∧ ∀ k, k < 6 ∨ 17 < k → h' 178 k = h 178 k
theorem rfr_t {h h1 h2 : PF} (a : RFr h h1) (c : RFr h1 h2) : RFr h h2 := ⟨fun x x1 x2 x3 => (c.1 x x1 x2 x3).trans (a.1 x x1 x2 x3), fun k hk => (c.2 k hk).trans (a.2 k hk)⟩
theorem rt_fr {h h' : PF} {b : Int → Int} {n j : Int} (hT : RT h b n j) (hf : h' 181 = h 181) (hk : ∀ k, 5 ≤ k → k ≤ 10 → h' 178 k = h 178 k) : RT h' b n j := by
  obtain ⟨a1, a2, a3, a4, a5, a6, a7, a8⟩ := hT
  unfold RT
  rw [hk 5 (by omega) (by omega), hk 6 (by omega) (by omega), hk 7 (by omega) (by omega), hk 8 (by omega) (by omega), hk 9 (by omega) (by omega), hk 10 (by omega) (by omega), hf]
  exact ⟨a1, a2, a3, a4, a5, a6, a7, a8⟩
theorem rt_al {b : Int → Int} {n j : Int} (hn : 0 ≤ n) (hn2 : n ≤ 600) (hA : Al b n j) : 0 ≤ j ∧ j ≤ 600 ∧ 0 ≤ ss b n j ∧ ss b n j ≤ n ∧ ss b n j ≤ tE b n (tP b n j.toNat) ∧ tE b n (tP b n j.toNat) ≤ n := by
  have h0 := hA.1
  have hp := tP_rng (b := b) hn j.toNat
  have hs := tS_rng (b := b) hp.2
  have he := tE_rng (b := b) hp.2
  have hss : ss b n j = tS b n (tP b n j.toNat) := rfl
  refine ⟨h0, ?_, by omega, by omega, by omega, by omega⟩
  by_cases z : j = 0
  · omega
  · have hk := hA.2 (j - 1) (by omega) (by omega)
    have := tP_ge (b := b) hn (j - 1).toNat hk
    omega
theorem C_adv {n j : Int} {b : Int → Int} {nx : Nat} {h r : PF} {s : Int → Int} {Q : PO → PY → Nat → PC → Prop} (hW : WFr r) (hn : 0 ≤ n) (hn2 : n ≤ 600) (hT : RT h b n j) (hk : kk b n j ≠ 0) (K : ∀ h' : PF, (∀ a, a ≠ 178 → h' a = h a) → (∀ k, k < 6 ∨ 10 < k → h' 178 k = h 178 k) → RT h' b n (j + 1) → Q (Sum.inl none) LY nx (h', r, s)) : Wp 132 0 [some (pR 178), none] [] LY nx (h, r, s) Q := by
  obtain ⟨a1, a2, a3, a4, a5, a6, a7, a8⟩ := hT
  have hr := rt_al hn hn2 a7
  refine C_advance hW a1 a3 hn2 (by omega) (by omega) a8 (fun h' hv => ?_)
  obtain ⟨v1, v2, v3, v4, v5, v6, v7⟩ := hv
  have e : (j + 1).toNat = j.toNat + 1 := by omega
  refine K h' v1 v2 ⟨by rw [v2 5 (by omega)]; exact a1, ?_, ?_, ?_, ?_, ?_, al_s a7 hk, fun k k1 k2 => by rw [v1 181 (by omega)]; exact a8 k k1 k2⟩
  · unfold ss; rw [e]; exact v3
  · rw [e]; exact v4
  · unfold kk; rw [e]; exact v5
  · unfold kk vv; rw [e]; exact v6
  · unfold kk ww; rw [e]; exact v7
theorem S_fails {c : Int} {nx : Nat} {h r : PF} {s : Int → Int} {Q : PO → PY → Nat → PC → Prop} (hW : WFr r) (e11 : h 178 11 = 0) : Wp 134 0 [some (pR 178), some (pI c)] [] LY nx (h, r, s) Q ↔ Q (Sum.inl (some (pI 0))) LY nx (fup (fup h 178 11 c) 178 12 (h 178 6), r, s) := by
  simp (disch := first | assumption | omega) only [st_X8_fails, ↓if_pos, ↓if_neg, if_pos, if_neg, ↓reduceIte, true_and, and_true, false_and, and_false, true_or, or_true, false_or, or_false, w32_id, Kv, Kn, fup_s, fup_a, fup_k, fup_fup, Int.reduceAdd, Int.reduceSub, Int.reduceMul, Int.reduceNeg, e11]
theorem S_starts0 {c : Int} {nx : Nat} {h r : PF} {s : Int → Int} {Q : PO → PY → Nat → PC → Prop} (hW : WFr r) (e11 : h 178 11 = 0) : Wp 135 0 [some (pR 178), some (pI c), some (pI 0)] [] LY nx (h, r, s) Q ↔ Q (Sum.inl (some (pI 0))) LY nx (fup (fup h 178 11 c) 178 12 (h 178 6), r, s) := by
  simp (disch := first | assumption | omega) only [st_X8_starts, ↓if_pos, ↓if_neg, if_pos, if_neg, ↓reduceIte, true_and, and_true, false_and, and_false, true_or, or_true, false_or, or_false, w32_id, Kv, Kn, fup_s, fup_a, fup_k, fup_fup, Int.reduceAdd, Int.reduceSub, Int.reduceMul, Int.reduceNeg, S_fails hW e11]
theorem C_starts1 {n j : Int} {b : Int → Int} {c : Int} {nx : Nat} {h r : PF} {s : Int → Int} {Q : PO → PY → Nat → PC → Prop} (hW : WFr r) (hn : 0 ≤ n) (hn2 : n ≤ 600) (hT : RT h b n j) (hk : kk b n j ≠ 0) (K : ∀ h' : PF, (∀ a, a ≠ 178 → h' a = h a) → (∀ k, k < 6 ∨ 10 < k → h' 178 k = h 178 k) → RT h' b n (j + 1) → Q (Sum.inl (some (pI 1))) LY nx (h', r, s)) : Wp 135 0 [some (pR 178), some (pI c), some (pI 1)] [] LY nx (h, r, s) Q := by
  simp (disch := first | assumption | omega) only [st_X8_starts, ↓if_pos, ↓if_neg, if_pos, if_neg, ↓reduceIte, true_and, and_true, false_and, and_false, true_or, or_true, false_or, or_false, w32_id, Kv, Kn, fup_s, fup_a, fup_k, fup_fup, Int.reduceAdd, Int.reduceSub, Int.reduceMul, Int.reduceNeg]
  refine C_adv hW hn hn2 hT hk (fun h' q1 q2 q3 => ?_)
  have hKK := K h' q1 q2 q3
  simp (disch := first | assumption | omega) only [st_X8_starts, ↓if_pos, ↓if_neg, if_pos, if_neg, ↓reduceIte, true_and, and_true, false_and, and_false, true_or, or_true, false_or, or_false, w32_id, Kv, Kn, fup_s, fup_a, fup_k, fup_fup, Int.reduceAdd, Int.reduceSub, Int.reduceMul, Int.reduceNeg]
  exact hKK
/-- a refusal, at the token on which the reading stands -/
def FF (h h' : PF) (c : Int) : Prop := (∀ a, a ≠ 178 → h' a = h a) ∧ (∀ k, k ≠ 11 → k ≠ 12 → h' 178 k = h 178 k) ∧ h' 178 11 = c ∧ h' 178 12 = h 178 6
theorem ff_mk {h : PF} {c : Int} : FF h (fup (fup h 178 11 c) 178 12 (h 178 6)) c := ⟨fun a h1 => by rw [fup_r h1, fup_r h1], fun k h1 h2 => by rw [fup_k h2, fup_k h1], by rw [fup_k (by omega), fup_s], by rw [fup_s]⟩
theorem C_takes {n j : Int} {b : Int → Int} {lo hi : Int} {nx : Nat} {h r : PF} {s : Int → Int} {Q : PO → PY → Nat → PC → Prop} (hW : WFr r) (hn : 0 ≤ n) (hn2 : n ≤ 600) (hT : RT h b n j) (e11 : h 178 11 = 0) (Kf : ∀ (c e : Int) (h' : PF), pNum b n lo hi j = Sum.inl (c, e) → FF h h' c → h' 178 12 = e → Q (Sum.inl (some (pI 0))) LY nx (h', r, s)) (Ks : ∀ (v : Int) (h' : PF), pNum b n lo hi j = Sum.inr v → (lo ≤ v ∧ v ≤ hi ∧ 0 ≤ v ∧ v ≤ 999) → (∀ a, a ≠ 178 → h' a = h a) → (∀ k, (k < 6 ∨ 10 < k) → k ≠ 13 → h' 178 k = h 178 k) → h' 178 13 = v → RT h' b n (j + 1) → Q (Sum.inl (some (pI 1))) LY nx (h', r, s)) : Wp 136 0 [some (pR 178), some (pI lo), some (pI hi)] [] LY nx (h, r, s) Q := by
  have hT0 := hT
  obtain ⟨a1, a2, a3, a4, a5, a6, a7, a8⟩ := hT
  by_cases hk : kk b n j = 2
  · have e9 := a5 hk
    have hv := vv_ok hn hk
    by_cases hr : lo ≤ vv b n j ∧ vv b n j ≤ hi
    · have hr1 := hr.1
      have hr2 := hr.2
      have hR : RT (fup h 178 13 (vv b n j)) b n j := rt_fr hT0 (fup_r (by omega)) (fun k k1 k2 => fup_k (by omega))
      simp (disch := first | assumption | omega) only [st_X8_takes, ↓if_pos, ↓if_neg, if_pos, if_neg, ↓reduceIte, true_and, and_true, false_and, and_false, true_or, or_true, false_or, or_false, w32_id, Kv, Kn, fup_s, fup_a, fup_k, fup_fup, Int.reduceAdd, Int.reduceSub, Int.reduceMul, Int.reduceNeg, a4, hk, e9, S_within hW]
      refine C_adv hW hn hn2 hR (by omega) (fun h' q1 q2 q3 => ?_)
      have hKK := Ks (vv b n j) h' (by unfold pNum; rw [if_neg (show ¬ kk b n j ≠ 2 from fun z => z hk), if_neg (show ¬ (vv b n j < lo ∨ hi < vv b n j) by omega)]) (by omega) (fun a h1 => by rw [q1 a h1, fup_r h1]) (fun k h1 h2 => by rw [q2 k h1, fup_k h2]) (by rw [q2 13 (by omega), fup_s]) q3
      simp (disch := first | assumption | omega) only [st_X8_takes, ↓if_pos, ↓if_neg, if_pos, if_neg, ↓reduceIte, true_and, and_true, false_and, and_false, true_or, or_true, false_or, or_false, w32_id, Kv, Kn, fup_s, fup_a, fup_k, fup_fup, Int.reduceAdd, Int.reduceSub, Int.reduceMul, Int.reduceNeg]
      exact hKK
    · have hKK := Kf 3 (ss b n j) _ (by unfold pNum; rw [if_neg (show ¬ kk b n j ≠ 2 from fun z => z hk), if_pos (show (vv b n j < lo ∨ hi < vv b n j) by omega)]) (ff_mk (h := h)) (by rw [fup_s]; exact a2)
      simp (disch := first | assumption | omega) only [st_X8_takes, ↓if_pos, ↓if_neg, if_pos, if_neg, ↓reduceIte, true_and, and_true, false_and, and_false, true_or, or_true, false_or, or_false, w32_id, Kv, Kn, fup_s, fup_a, fup_k, fup_fup, Int.reduceAdd, Int.reduceSub, Int.reduceMul, Int.reduceNeg, a4, hk, e9, S_within hW, S_fails hW e11]
      exact hKK
  · have hKK := Kf 1 (ss b n j) _ (by unfold pNum; rw [if_pos (show kk b n j ≠ 2 from hk)]) (ff_mk (h := h)) (by rw [fup_s]; exact a2)
    simp (disch := first | assumption | omega) only [st_X8_takes, ↓if_pos, ↓if_neg, if_pos, if_neg, ↓reduceIte, true_and, and_true, false_and, and_false, true_or, or_true, false_or, or_false, w32_id, Kv, Kn, fup_s, fup_a, fup_k, fup_fup, Int.reduceAdd, Int.reduceSub, Int.reduceMul, Int.reduceNeg, a4, S_fails hW e11]
    exact hKK
theorem C_lays {n j : Int} {b : Int → Int} {w lo hi : Int} {nx : Nat} {h r : PF} {s : Int → Int} {Q : PO → PY → Nat → PC → Prop} (hW : WFr r) (hn : 0 ≤ n) (hn2 : n ≤ 600) (hT : RT h b n j) (e11 : h 178 11 = 0) (hw : 0 ≤ w) (hw2 : w < 164) (Kf : ∀ (c e : Int) (h' : PF), pNum b n lo hi j = Sum.inl (c, e) → FF h h' c → h' 178 12 = e → Q (Sum.inl (some (pI 0))) LY nx (h', r, s)) (Ks : ∀ (v : Int) (h' : PF), pNum b n lo hi j = Sum.inr v → (lo ≤ v ∧ v ≤ hi ∧ 0 ≤ v ∧ v ≤ 999) → (∀ a, a ≠ 178 → a ≠ 182 → h' a = h a) → h' 182 = up1 (h 182) w v → (∀ k, (k < 6 ∨ 10 < k) → k ≠ 13 → h' 178 k = h 178 k) → RT h' b n (j + 1) → Q (Sum.inl (some (pI 1))) LY nx (h', r, s)) : Wp 137 0 [some (pR 178), some (pI w), some (pI lo), some (pI hi)] [] LY nx (h, r, s) Q := by
  simp (disch := first | assumption | omega) only [st_X8_lays, ↓if_pos, ↓if_neg, if_pos, if_neg, ↓reduceIte, true_and, and_true, false_and, and_false, true_or, or_true, false_or, or_false, w32_id, Kv, Kn, fup_s, fup_a, fup_k, fup_fup, Int.reduceAdd, Int.reduceSub, Int.reduceMul, Int.reduceNeg]
  refine C_takes hW hn hn2 hT e11 (fun c e h' q1 q2 q3 => ?_) (fun v h' q1 q2 q3 q4 q5 q6 => ?_)
  · have hKK := Kf c e h' q1 q2 q3
    simp (disch := first | assumption | omega) only [st_X8_lays, ↓if_pos, ↓if_neg, if_pos, if_neg, ↓reduceIte, true_and, and_true, false_and, and_false, true_or, or_true, false_or, or_false, w32_id, Kv, Kn, fup_s, fup_a, fup_k, fup_fup, Int.reduceAdd, Int.reduceSub, Int.reduceMul, Int.reduceNeg]
    exact hKK
  · have hKK := Ks v (fup h' 182 w v) q1 q2 (fun a h1 h2 => by rw [fup_r h2, q3 a h1]) (by rw [fup_self, q3 182 (by omega)]) (fun k h1 h2 => by rw [fup_a (by omega), q4 k h1 h2]) (rt_fr q6 (fup_r (by omega)) (fun k k1 k2 => fup_a (by omega)))
    simp (disch := first | assumption | omega) only [st_X8_lays, ↓if_pos, ↓if_neg, if_pos, if_neg, ↓reduceIte, true_and, and_true, false_and, and_false, true_or, or_true, false_or, or_false, w32_id, Kv, Kn, fup_s, fup_a, fup_k, fup_fup, Int.reduceAdd, Int.reduceSub, Int.reduceMul, Int.reduceNeg, q5]
    exact hKK
theorem C_closes {n j : Int} {b : Int → Int} {nx : Nat} {h r : PF} {s : Int → Int} {Q : PO → PY → Nat → PC → Prop} (hW : WFr r) (hn : 0 ≤ n) (hn2 : n ≤ 600) (hT : RT h b n j) (e11 : h 178 11 = 0) (Kf : ∀ (h' : PF), kk b n j ≠ 3 → FF h h' 1 → h' 178 12 = ss b n j → Q (Sum.inl (some (pI 0))) LY nx (h', r, s)) (Ks : ∀ h' : PF, kk b n j = 3 → (∀ a, a ≠ 178 → h' a = h a) → (∀ k, k < 6 ∨ 10 < k → h' 178 k = h 178 k) → RT h' b n (j + 1) → Q (Sum.inl (some (pI 1))) LY nx (h', r, s)) : Wp 138 0 [some (pR 178)] [] LY nx (h, r, s) Q := by
  have hT0 := hT
  obtain ⟨a1, a2, a3, a4, a5, a6, a7, a8⟩ := hT
  by_cases hk : kk b n j = 3
  · skip
    simp (disch := first | assumption | omega) only [st_X8_closes, ↓if_pos, ↓if_neg, if_pos, if_neg, ↓reduceIte, true_and, and_true, false_and, and_false, true_or, or_true, false_or, or_false, w32_id, Kv, Kn, fup_s, fup_a, fup_k, fup_fup, Int.reduceAdd, Int.reduceSub, Int.reduceMul, Int.reduceNeg, a4, hk]
    refine C_starts1 hW hn hn2 hT0 (by omega) (fun h' q1 q2 q3 => ?_)
    have hKK := Ks h' hk q1 q2 q3
    simp (disch := first | assumption | omega) only [st_X8_closes, ↓if_pos, ↓if_neg, if_pos, if_neg, ↓reduceIte, true_and, and_true, false_and, and_false, true_or, or_true, false_or, or_false, w32_id, Kv, Kn, fup_s, fup_a, fup_k, fup_fup, Int.reduceAdd, Int.reduceSub, Int.reduceMul, Int.reduceNeg]
    exact hKK
  · have hKK := Kf _ hk (ff_mk (h := h)) (by rw [fup_s]; exact a2)
    simp (disch := first | assumption | omega) only [st_X8_closes, ↓if_pos, ↓if_neg, if_pos, if_neg, ↓reduceIte, true_and, and_true, false_and, and_false, true_or, or_true, false_or, or_false, w32_id, Kv, Kn, fup_s, fup_a, fup_k, fup_fup, Int.reduceAdd, Int.reduceSub, Int.reduceMul, Int.reduceNeg, a4, S_starts0 hW e11]
    exact hKK
theorem K_named {m : Int} {W : Int → List Int} {x : List Int} {nx : Nat} {h r : PF} {s : Int → Int} {Q : PO → PY → Nat → PC → Prop} (hW : WFr r) (hm : 0 ≤ m) (hm2 : m ≤ 4) (e1 : h 182 1 = m) (hx : Dg x) (hN : ∀ i, 0 ≤ i → i < m → h 183 i = N256 (W i) ∧ Dg (W i)) (K : Q (Sum.inl (some (pI (gNm W x m)))) LY nx (h, r, s)) : Wp 139 0 [some (pR 178), some (pJ (N256 x)), none, none] [] LY nx (h, r, s) Q := by
  simp (disch := first | assumption | omega) only [st_X8_named, ↓if_pos, ↓if_neg, if_pos, if_neg, ↓reduceIte, true_and, and_true, false_and, and_false, true_or, or_true, false_or, or_false, w32_id, Kv, Kn, fup_s, fup_a, fup_k, fup_fup, Int.reduceAdd, Int.reduceSub, Int.reduceMul, Int.reduceNeg]
  refine loopL (Inv := fun i L => upto (nmF W x) i.toNat (-1) = -1 ∧ L = [some (pR 178), some (pJ (N256 x)), none, some (pI i)]) (a := 0) (n := m) (by omega) ?_ ?_ _ ⟨rfl, rfl⟩
  · rintro i L hi hi2 ⟨h0, rfl⟩ hK
    have hni := hN i hi hi2
    have e8 := hni.1
    rw [sh_X8_named_2]
    by_cases hw : W i = x
    · rw [nm_at hi hi2 h0 hw] at K
      have e : N256 (W i) = N256 x := by rw [hw]
      simp (disch := first | assumption | omega) only [st_X8_named, ↓if_pos, ↓if_neg, if_pos, if_neg, ↓reduceIte, true_and, and_true, false_and, and_false, true_or, or_true, false_or, or_false, w32_id, Kv, Kn, fup_s, fup_a, fup_k, fup_fup, Int.reduceAdd, Int.reduceSub, Int.reduceMul, Int.reduceNeg, e1, e8, e, plcmp_eq]
      exact K
    · have hne : N256 (W i) ≠ N256 x := fun z => hw (N256_inj _ _ hni.2 hx z)
      have hKK := hK _ ⟨by rw [upto_s hi, h0]; unfold nmF; rw [if_neg (fun z => hw z.2)], rfl⟩
      by_cases hl : N256 (W i) < N256 x
      · skip
        simp (disch := first | assumption | omega) only [st_X8_named, ↓if_pos, ↓if_neg, if_pos, if_neg, ↓reduceIte, true_and, and_true, false_and, and_false, true_or, or_true, false_or, or_false, w32_id, Kv, Kn, fup_s, fup_a, fup_k, fup_fup, Int.reduceAdd, Int.reduceSub, Int.reduceMul, Int.reduceNeg, e1, e8, plcmp_lt]
        exact hKK
      · skip
        simp (disch := first | assumption | omega) only [st_X8_named, ↓if_pos, ↓if_neg, if_pos, if_neg, ↓reduceIte, true_and, and_true, false_and, and_false, true_or, or_true, false_or, or_false, w32_id, Kv, Kn, fup_s, fup_a, fup_k, fup_fup, Int.reduceAdd, Int.reduceSub, Int.reduceMul, Int.reduceNeg, e1, e8, plcmp_gt]
        exact hKK
  · rintro L ⟨h0, rfl⟩
    have e : gNm W x m = -1 := h0
    rw [e] at K
    rw [sh_X8_named_2]
    simp (disch := first | assumption | omega) only [st_X8_named, ↓if_pos, ↓if_neg, if_pos, if_neg, ↓reduceIte, true_and, and_true, false_and, and_false, true_or, or_true, false_or, or_false, w32_id, Kv, Kn, fup_s, fup_a, fup_k, fup_fup, Int.reduceAdd, Int.reduceSub, Int.reduceMul, Int.reduceNeg, e1]
    exact K
theorem S_named {m : Int} {W : Int → List Int} {x : List Int} {nx : Nat} {h r : PF} {s : Int → Int} {Q : PO → PY → Nat → PC → Prop} (hW : WFr r) (hm : 0 ≤ m) (hm2 : m ≤ 4) (e1 : h 182 1 = m) (hx : Dg x) (hN : ∀ i, 0 ≤ i → i < m → h 183 i = N256 (W i) ∧ Dg (W i)) : Wp 139 0 [some (pR 178), some (pJ (N256 x)), none, none] [] LY nx (h, r, s) Q ↔ Q (Sum.inl (some (pI (gNm W x m)))) LY nx (h, r, s) := Wp.eq (K_named hW hm hm2 e1 hx hN ⟨rfl, rfl, rfl, rfl⟩)
theorem K_isWord {n j : Int} {b : Int → Int} {a x : Int} {nx : Nat} {h r : PF} {s : Int → Int} {Q : PO → PY → Nat → PC → Prop} (hW : WFr r) (hn : 0 ≤ n) (hn2 : n ≤ 600) (hT : RT h b n j) (h1 : -7 ≤ a) (h2 : a < 0) (hx : x = 1 ∧ isK b n j a ∨ x = 0 ∧ ¬ isK b n j a) (K : Q (Sum.inl (some (pI x))) LY nx (h, r, s)) : Wp 133 0 [some (pR 178), some (pR a), none, none] [] LY nx (h, r, s) Q := by
  obtain ⟨a1, a2, a3, a4, a5, a6, a7, a8⟩ := hT
  have hr := rt_al hn hn2 a7
  have hk := kw_ok h1 h2
  have hw : ww b n j = wd b (ss b n j) (tE b n (tP b n j.toNat) - ss b n j).toNat := rfl
  generalize tE b n (tP b n j.toNat) = E at *
  have hlen := wd_len (b := b) (s := ss b n j) (E - ss b n j).toNat
  rw [← hw] at hlen
  by_cases hg : kk b n j = 1 ∧ E - ss b n j = pstrLen a
  · have hg1 := hg.1
    have hg2 := hg.2
    simp (disch := first | assumption | omega) only [st_X8_isWord, ↓if_pos, ↓if_neg, if_pos, if_neg, ↓reduceIte, true_and, and_true, false_and, and_false, true_or, or_true, false_or, or_false, w32_id, Kv, Kn, fup_s, fup_a, fup_k, fup_fup, Int.reduceAdd, Int.reduceSub, Int.reduceMul, Int.reduceNeg, a2, a3, a4]
    refine loopL (Inv := fun i L => (∀ q : Nat, q < i → b (ss b n j + q) = pstrAt a q) ∧ L = [some (pR 178), some (pR a), some (pI 1), some (pI i)]) (a := 0) (n := pstrLen a) (by omega) ?_ ?_ _ ⟨fun q hq => absurd hq (by omega), rfl⟩
    · rintro i L hi hi2 ⟨h0, rfl⟩ hK
      have eb := (a8 (ss b n j + i) (by omega) (by omega)).1
      rw [sh_X8_isWord_32]
      by_cases hc : b (ss b n j + i) = pstrAt a i
      · have hKK := hK _ ⟨fun q hq => by
          by_cases z : (q : Int) = i
          · rw [z]; exact hc
          · exact h0 q (by omega), rfl⟩
        simp (disch := first | assumption | omega) only [st_X8_isWord, ↓if_pos, ↓if_neg, if_pos, if_neg, ↓reduceIte, true_and, and_true, false_and, and_false, true_or, or_true, false_or, or_false, w32_id, Kv, Kn, fup_s, fup_a, fup_k, fup_fup, Int.reduceAdd, Int.reduceSub, Int.reduceMul, Int.reduceNeg, a2, eb, hc]
        exact hKK
      · have hx0 : x = 0 := by
          rcases hx with z | z
          · exfalso
            apply hc
            have := z.2.2
            rw [hw] at this
            unfold kw at this
            rw [show (E - ss b n j).toNat = (pstrLen a).toNat by omega] at this
            have h3 := wd_kw (pstrLen a).toNat |>.mp this i.toNat (by omega)
            rw [show ((i.toNat : Nat) : Int) = i by omega] at h3
            exact h3
          · exact z.1
        rw [hx0] at K
        simp (disch := first | assumption | omega) only [st_X8_isWord, ↓if_pos, ↓if_neg, if_pos, if_neg, ↓reduceIte, true_and, and_true, false_and, and_false, true_or, or_true, false_or, or_false, w32_id, Kv, Kn, fup_s, fup_a, fup_k, fup_fup, Int.reduceAdd, Int.reduceSub, Int.reduceMul, Int.reduceNeg, a2, eb]
        rw [sh_X8_isWord_32]
        by_cases hl : i + 1 < pstrLen a
        · skip
          simp (disch := first | assumption | omega) only [st_X8_isWord, ↓if_pos, ↓if_neg, if_pos, if_neg, ↓reduceIte, true_and, and_true, false_and, and_false, true_or, or_true, false_or, or_false, w32_id, Kv, Kn, fup_s, fup_a, fup_k, fup_fup, Int.reduceAdd, Int.reduceSub, Int.reduceMul, Int.reduceNeg]
          exact K
        · skip
          simp (disch := first | assumption | omega) only [st_X8_isWord, ↓if_pos, ↓if_neg, if_pos, if_neg, ↓reduceIte, true_and, and_true, false_and, and_false, true_or, or_true, false_or, or_false, w32_id, Kv, Kn, fup_s, fup_a, fup_k, fup_fup, Int.reduceAdd, Int.reduceSub, Int.reduceMul, Int.reduceNeg]
          exact K
    · rintro L ⟨h0, rfl⟩
      have hx1 : x = 1 := by
        rcases hx with z | z
        · exact z.1
        · exfalso
          apply z.2
          refine ⟨hg1, ?_⟩
          rw [hw]
          unfold kw
          rw [show (E - ss b n j).toNat = (pstrLen a).toNat by omega]
          exact wd_kw (pstrLen a).toNat |>.mpr (fun q hq => h0 q (by omega))
      rw [hx1] at K
      rw [sh_X8_isWord_32]
      simp (disch := first | assumption | omega) only [st_X8_isWord, ↓if_pos, ↓if_neg, if_pos, if_neg, ↓reduceIte, true_and, and_true, false_and, and_false, true_or, or_true, false_or, or_false, w32_id, Kv, Kn, fup_s, fup_a, fup_k, fup_fup, Int.reduceAdd, Int.reduceSub, Int.reduceMul, Int.reduceNeg]
      exact K
  · have hx0 : x = 0 := by
      rcases hx with z | z
      · exfalso
        apply hg
        have h3 := z.2.2
        rw [h3] at hlen
        unfold kw at hlen
        rw [kwF_len] at hlen
        exact ⟨z.2.1, by omega⟩
      · exact z.1
    rw [hx0] at K
    by_cases hg1 : kk b n j = 1
    · have hg2 : E - ss b n j ≠ pstrLen a := fun z => hg ⟨hg1, z⟩
      simp (disch := first | assumption | omega) only [st_X8_isWord, ↓if_pos, ↓if_neg, if_pos, if_neg, ↓reduceIte, true_and, and_true, false_and, and_false, true_or, or_true, false_or, or_false, w32_id, Kv, Kn, fup_s, fup_a, fup_k, fup_fup, Int.reduceAdd, Int.reduceSub, Int.reduceMul, Int.reduceNeg, a2, a3, a4, hg1]
      rw [sh_X8_isWord_32]
      simp (disch := first | assumption | omega) only [st_X8_isWord, ↓if_pos, ↓if_neg, if_pos, if_neg, ↓reduceIte, true_and, and_true, false_and, and_false, true_or, or_true, false_or, or_false, w32_id, Kv, Kn, fup_s, fup_a, fup_k, fup_fup, Int.reduceAdd, Int.reduceSub, Int.reduceMul, Int.reduceNeg]
      exact K
    · skip
      simp (disch := first | assumption | omega) only [st_X8_isWord, ↓if_pos, ↓if_neg, if_pos, if_neg, ↓reduceIte, true_and, and_true, false_and, and_false, true_or, or_true, false_or, or_false, w32_id, Kv, Kn, fup_s, fup_a, fup_k, fup_fup, Int.reduceAdd, Int.reduceSub, Int.reduceMul, Int.reduceNeg, a2, a3, a4]
      rw [sh_X8_isWord_32]
      simp (disch := first | assumption | omega) only [st_X8_isWord, ↓if_pos, ↓if_neg, if_pos, if_neg, ↓reduceIte, true_and, and_true, false_and, and_false, true_or, or_true, false_or, or_false, w32_id, Kv, Kn, fup_s, fup_a, fup_k, fup_fup, Int.reduceAdd, Int.reduceSub, Int.reduceMul, Int.reduceNeg]
      exact K
theorem S_isWord {n j : Int} {b : Int → Int} {a x : Int} {nx : Nat} {h r : PF} {s : Int → Int} {Q : PO → PY → Nat → PC → Prop} (hW : WFr r) (hn : 0 ≤ n) (hn2 : n ≤ 600) (hT : RT h b n j) (h1 : -7 ≤ a) (h2 : a < 0) (hx : x = 1 ∧ isK b n j a ∨ x = 0 ∧ ¬ isK b n j a) : Wp 133 0 [some (pR 178), some (pR a), none, none] [] LY nx (h, r, s) Q ↔ Q (Sum.inl (some (pI x))) LY nx (h, r, s) := Wp.eq (K_isWord hW hn hn2 hT h1 h2 hx ⟨rfl, rfl, rfl, rfl⟩)
