/-! PARSE, ON BOTH SIDES -/
theorem pMach_lt {b T : Int → Int} {W : Int → List Int} {n j tr : Int} {S' : PSt} (h : pMach b n j T W tr = Sum.inr S') : j < S'.1 := by
  unfold pMach at h
  (repeat' split at h) <;> (cases h) <;> first | (dsimp only; omega) | (split <;> (dsimp only; omega))
theorem pTurn_lt {b T : Int → Int} {W : Int → List Int} {n j tr : Int} {S' : PSt} (h : pTurn b n j T W tr = Sum.inr S') : j < S'.1 := by
  unfold pTurn at h
  (repeat' split at h) <;> (cases h) <;> (dsimp only; omega)
theorem pGo_lt {b T : Int → Int} {W : Int → List Int} {n j tr m f : Int} {S' : PSt} (h : pGo b n j T W tr m f = Sum.inr S') : j < S'.1 := by
  unfold pGo at h
  (repeat' split at h) <;> (cases h) <;> (dsimp only; omega)
theorem pAcc_lt {b T : Int → Int} {W : Int → List Int} {n j tr m f : Int} {S' : PSt} (h : pAcc b n j T W tr m f = Sum.inr S') : j < S'.1 := by
  unfold pAcc at h
  (repeat' split at h) <;> (cases h) <;> (dsimp only; omega)
theorem pTire_lt {b T : Int → Int} {W : Int → List Int} {n j tr m f : Int} {S' : PSt} (h : pTire b n j T W tr m f = Sum.inr S') : j < S'.1 := by
  unfold pTire at h
  (repeat' split at h) <;> (cases h) <;> (dsimp only; omega)
theorem pStm_lt {b : Int → Int} {n : Int} {S S' : PSt} (h : pStm b n S = Sum.inr S') : S.1 < S'.1 := by
  unfold pStm at h
  split at h
  · exact pMach_lt h
  split at h
  · exact pTurn_lt h
  split at h
  · split at h
    · cases h
    · exact pGo_lt h
  split at h
  · split at h
    · cases h
    · exact pAcc_lt h
  split at h
  · split at h
    · cases h
    · exact pTire_lt h
  cases h
/-- as the reference begins a standing -/
def PostB (h h' : PF) (T : Int → Int) : Prop := (∀ a, a ≠ 178 → a ≠ 179 → a ≠ 180 → a ≠ 194 → h' a = h a) ∧ (∀ k, k ≠ 26 → h' 178 k = h 178 k) ∧ h' 178 26 = 0 ∧ h' 194 0 = 0 ∧ h' 194 1 = 0 ∧ (∀ k, 0 ≤ k → k < 164 → h' 179 k = T k) ∧ BegN (h' 179) (h' 180) (T 1)
theorem dwf_00 {c : Int} (h1 : 1 ≤ c) (h4 : c ≤ 4) : DWf (T00 c) := by
  have hT0 : ∀ k, 4 ≤ k → T00 c k = 0 := fun k q => by unfold T00; rw [up1_k (by omega), up1_k (by omega), up1_k (by omega)]
  have t0 : T00 c 0 = c := up1_s
  have t1 : T00 c 1 = 0 := by unfold T00; rw [up1_k (by omega), up1_k (by omega), up1_k (by omega)]
  have t2 : T00 c 2 = 4 := by unfold T00; rw [up1_k (by omega), up1_k (by omega), up1_s]
  have t3 : T00 c 3 = 1 := by unfold T00; rw [up1_k (by omega), up1_s]
  have hgO : ∀ m w, 0 ≤ m → 0 ≤ w → gO (T00 c) m w = 0 := fun m w q1 q2 => hT0 _ (by omega)
  have hgS : ∀ m t w, 0 ≤ m → 0 ≤ t → 0 ≤ w → gS (T00 c) m t w = 0 := fun m t w q1 q2 q3 => hT0 _ (by omega)
  refine ⟨by rw [t0]; omega, by rw [t1]; omega, by rw [t2]; omega, by rw [t3]; omega, fun k q1 q2 => ?_, fun m m1 m2 => ?_⟩
  · by_cases q : 4 ≤ k
    · rw [hT0 k q]; omega
    · have : k = 0 ∨ k = 1 ∨ k = 2 ∨ k = 3 := by omega
      rcases this with q | q | q | q <;> rw [q]
      · rw [t0]; omega
      · rw [t1]; omega
      · rw [t2]; omega
      · rw [t3]; omega
  · rw [t1]
    refine ⟨fun q => absurd q (by omega), by rw [hgO m 3 m1 (by omega)]; omega, fun q w q1 q2 => hgO m w m1 q1, fun t q1 q2 => ⟨⟨by rw [hgS m t 0 m1 q1 (by omega)]; omega, by rw [hgS m t 1 m1 q1 (by omega)]; omega⟩, fun l l1 l2 => ?_⟩⟩
    rw [hgS m t (2 + l) m1 q1 (by omega), hgO m 2 m1 (by omega)]; omega
theorem K_sLoop {n l : Int} {b : Int → Int} {nx : Nat} {h0 r : PF} {s : Int → Int} {Q : PO → PY → Nat → PC → Prop} (hW : WFr r) (hn : 0 ≤ n) (hn2 : n ≤ 600) : ∀ (f : Nat) (S : PSt) (h : PF), 603 ≤ S.1 + f → RFr h0 h → RSt h b n S → (∀ (c e : Int) (h' : PF), pLoop b n f S = Sum.inl (c, e) → RFr h0 h' → h' 178 11 = c → h' 178 12 = e → Q (Sum.inl (some (pI c))) LY nx (h', r, s)) → (∀ (S' : PSt) (h' h2 : PF), pLoop b n f S = Sum.inr S' → RFr h0 h' → RSt h' b n S' → PostB h' h2 S'.2.1 → Q (Sum.inl (some (pI 0))) LY nx (h2, r, s)) → Wp 150 102 [some (pR 178), some (pI l), some (pI 1)] [] LY nx (h, r, s) Q
  | 0, S, h, hi, hf, hS, Kf, Ks => by
    exfalso
    have := rt_al hn hn2 hS.1.2.2.2.2.2.2.1
    omega
  | f + 1, S, h, hi, hf, hS, Kf, Ks => by
    obtain ⟨j, T, W, tr⟩ := S
    have hS0 := hS
    obtain ⟨hT, ⟨e11, e12⟩, ⟨e14, htr⟩, hN, h2, hDW⟩ := hS
    dsimp only at hT e14 htr hN h2 hDW hi
    have g8 := hT.2.2.2.1
    refine (sh_X8_parse_102).mpr ?_
    by_cases hk : kk b n j = 0
    · skip
      simp (disch := first | assumption | omega) only [st_X8_parse_0, st_X8_parse_1, ↓if_pos, ↓if_neg, if_pos, if_neg, ↓reduceIte, true_and, and_true, false_and, and_false, true_or, or_true, false_or, or_false, w32_id, Kv, Kn, fup_s, fup_a, fup_k, fup_fup, Int.reduceAdd, Int.reduceSub, Int.reduceMul, Int.reduceNeg, g8, hk]
      refine C_begins hW hDW h2 (fun h2' b1 b2 b3 b4 b5 b6 b7 => ?_)
      have hKK := Ks (j, T, W, tr) h h2' (by unfold pLoop; rw [if_pos hk]) hf hS0 ⟨b1, b2, b3, b4, b5, b6, b7⟩
      simp (disch := first | assumption | omega) only [st_X8_parse_0, st_X8_parse_1, ↓if_pos, ↓if_neg, if_pos, if_neg, ↓reduceIte, true_and, and_true, false_and, and_false, true_or, or_true, false_or, or_false, w32_id, Kv, Kn, fup_s, fup_a, fup_k, fup_fup, Int.reduceAdd, Int.reduceSub, Int.reduceMul, Int.reduceNeg]
      exact hKK
    · have hpl : ∀ X, (match pStm b n (j, T, W, tr) with
          | Sum.inl e => Sum.inl e
          | Sum.inr S' => if kk b n S'.1 = 3 then pLoop b n f (S'.1 + 1, S'.2) else Sum.inl (1, ss b n S'.1)) = X → pLoop b n (f + 1) (j, T, W, tr) = X := fun X z => by
        unfold pLoop
        rw [if_neg hk]
        exact z
      simp (disch := first | assumption | omega) only [st_X8_parse_0, st_X8_parse_1, ↓if_pos, ↓if_neg, if_pos, if_neg, ↓reduceIte, true_and, and_true, false_and, and_false, true_or, or_true, false_or, or_false, w32_id, Kv, Kn, fup_s, fup_a, fup_k, fup_fup, Int.reduceAdd, Int.reduceSub, Int.reduceMul, Int.reduceNeg, g8]
      refine C_statement hW hn hn2 hS0 hk (fun c e h' u1 u2 u3 u4 => ?_) (fun S' h1 u1 u2 u3 => ?_)
      · have hKK := Kf c e h' (hpl _ (by rw [u1])) (rfr_t hf u2) u3 u4
        simp (disch := first | assumption | omega) only [st_X8_parse_0, st_X8_parse_1, ↓if_pos, ↓if_neg, if_pos, if_neg, ↓reduceIte, true_and, and_true, false_and, and_false, true_or, or_true, false_or, or_false, w32_id, Kv, Kn, fup_s, fup_a, fup_k, fup_fup, Int.reduceAdd, Int.reduceSub, Int.reduceMul, Int.reduceNeg]
        refine (sh_X8_parse_102).mpr ?_
        simp (disch := first | assumption | omega) only [st_X8_parse_0, st_X8_parse_1, ↓if_pos, ↓if_neg, if_pos, if_neg, ↓reduceIte, true_and, and_true, false_and, and_false, true_or, or_true, false_or, or_false, w32_id, Kv, Kn, fup_s, fup_a, fup_k, fup_fup, Int.reduceAdd, Int.reduceSub, Int.reduceMul, Int.reduceNeg, u3]
        exact hKK
      · have hlt := pStm_lt u1
        obtain ⟨j', T', W', tr'⟩ := S'
        have u30 := u3
        obtain ⟨hT', ⟨t11, t12⟩, ⟨t14, htr'⟩, hN', h2', hDW'⟩ := u3
        dsimp only at hT' t14 htr' hN' h2' hDW' hlt
        simp (disch := first | assumption | omega) only [st_X8_parse_0, st_X8_parse_1, ↓if_pos, ↓if_neg, if_pos, if_neg, ↓reduceIte, true_and, and_true, false_and, and_false, true_or, or_true, false_or, or_false, w32_id, Kv, Kn, fup_s, fup_a, fup_k, fup_fup, Int.reduceAdd, Int.reduceSub, Int.reduceMul, Int.reduceNeg]
        refine C_closes hW hn hn2 hT' t11 (fun h' w1 w2 w3 => ?_) (fun h' w1 w2 w3 hT2 => ?_)
        · have w4 := w2.2.2.1
          have hKK := Kf 1 (ss b n j') h' (hpl _ (by rw [u1]; dsimp only; rw [if_neg w1])) (ff_r (rfr_t hf u2) w2) w4 w3
          simp (disch := first | assumption | omega) only [st_X8_parse_0, st_X8_parse_1, ↓if_pos, ↓if_neg, if_pos, if_neg, ↓reduceIte, true_and, and_true, false_and, and_false, true_or, or_true, false_or, or_false, w32_id, Kv, Kn, fup_s, fup_a, fup_k, fup_fup, Int.reduceAdd, Int.reduceSub, Int.reduceMul, Int.reduceNeg]
          refine (sh_X8_parse_102).mpr ?_
          simp (disch := first | assumption | omega) only [st_X8_parse_0, st_X8_parse_1, ↓if_pos, ↓if_neg, if_pos, if_neg, ↓reduceIte, true_and, and_true, false_and, and_false, true_or, or_true, false_or, or_false, w32_id, Kv, Kn, fup_s, fup_a, fup_k, fup_fup, Int.reduceAdd, Int.reduceSub, Int.reduceMul, Int.reduceNeg, w4]
          exact hKK
        · have hS2 : RSt h' b n (j' + 1, T', W', tr') := ⟨hT2, ⟨by rw [w3 11 (by omega)]; exact t11, by rw [w3 12 (by omega)]; exact t12⟩, ⟨by dsimp only; rw [w3 14 (by omega)]; exact t14, htr'⟩, fun i i1 i2 => by dsimp only at i2 ⊢; rw [w2 183 (by omega)]; exact hN' i i1 i2, fun k k1 k2 => by dsimp only; rw [w2 182 (by omega)]; exact h2' k k1 k2, hDW'⟩
          have hR := K_sLoop (l := l) hW hn hn2 f (j' + 1, T', W', tr') h' (by dsimp only; omega) (rfr_t (rfr_t hf u2) (rfr_178 w2 (fun k hk => w3 k (by omega)))) hS2 (fun c e h3 v1 v2 v3 v4 => Kf c e h3 (hpl _ (by rw [u1]; dsimp only; rw [if_pos w1]; exact v1)) v2 v3 v4) (fun S3 h3 h4 v1 v2 v3 v4 => Ks S3 h3 h4 (hpl _ (by rw [u1]; dsimp only; rw [if_pos w1]; exact v1)) v2 v3 v4)
          simp (disch := first | assumption | omega) only [st_X8_parse_0, st_X8_parse_1, ↓if_pos, ↓if_neg, if_pos, if_neg, ↓reduceIte, true_and, and_true, false_and, and_false, true_or, or_true, false_or, or_false, w32_id, Kv, Kn, fup_s, fup_a, fup_k, fup_fup, Int.reduceAdd, Int.reduceSub, Int.reduceMul, Int.reduceNeg]
          exact hR
/-- what reading leaves of the reference alone -/
def QFr (h h' : PF) : Prop := (∀ a, a ≠ 178 → a ≠ 182 → a ≠ 183 → h' a = h a) ∧ (∀ k, k = 1 ∨ k = 2 ∨ k = 3 ∨ 17 < k → h' 178 k = h 178 k) ∧ h' 178 0 = 0 ∧ h' 178 4 = 0
theorem qfr_t {h h1 h2 : PF} (a : QFr h h1) (c : RFr h1 h2) : QFr h h2 := ⟨fun x x1 x2 x3 => (c.1 x x1 x2 x3).trans (a.1 x x1 x2 x3), fun k hk => (c.2 k (by omega)).trans (a.2.1 k hk), (c.2 0 (by omega)).trans a.2.2.1, (c.2 4 (by omega)).trans a.2.2.2⟩
theorem C_parseR {n : Int} {b : Int → Int} {nx : Nat} {h r : PF} {s : Int → Int} {Q : PO → PY → Nat → PC → Prop} (hW : WFr r) (hn : 0 ≤ n) (hn2 : n ≤ 600) (hn4 : n ≤ h 178 4) (hb : ∀ k, 0 ≤ k → k < n → h 181 k = b k ∧ -128 ≤ b k ∧ b k ≤ 127) (Kf : ∀ (c e : Int) (h' : PF), pTop b n = Sum.inl (c, e) → QFr h h' → h' 178 12 = e → Q (Sum.inl (some (pI c))) LY nx (h', r, s)) (Ks : ∀ (S' : PSt) (h' h2 : PF), pTop b n = Sum.inr S' → QFr h h' → h' 178 12 = -1 → DWf S'.2.1 → PostB h' h2 S'.2.1 → Q (Sum.inl (some (pI 0))) LY nx (h2, r, s)) : Wp 150 0 [some (pR 178), some (pI n), none] [] LY nx (h, r, s) Q := by
  simp (disch := first | assumption | omega) only [st_X8_parse_0, st_X8_parse_1, ↓if_pos, ↓if_neg, if_pos, if_neg, ↓reduceIte, true_and, and_true, false_and, and_false, true_or, or_true, false_or, or_false, w32_id, Kv, Kn, fup_s, fup_a, fup_k, fup_fup, Int.reduceAdd, Int.reduceSub, Int.reduceMul, Int.reduceNeg, S_within hW, S_throwsIf hW, S_clearsRead hW, frng_a]
  have eH : ∃ H, H = fup (fup (fup (frng (fup (fup (fup (fup (fup (fup h 178 0 0) 178 5 n) 178 4 0) 178 7 0) 178 11 0) 178 12 (-1)) 182 0 164 (fun _ => 0)) 182 2 4) 182 3 1) 178 14 0 := ⟨_, rfl⟩
  obtain ⟨H, eH⟩ := eH
  rw [← eH]
  have d5 : H 178 5 = n := by rw [eH]; simp (disch := omega) only [fup_s, fup_k, fup_a, frng_a]
  have d7 : H 178 7 = 0 := by rw [eH]; simp (disch := omega) only [fup_s, fup_k, fup_a, frng_a]
  have d11 : H 178 11 = 0 := by rw [eH]; simp (disch := omega) only [fup_s, fup_k, fup_a, frng_a]
  have d12 : H 178 12 = -1 := by rw [eH]; simp (disch := omega) only [fup_s, fup_k, fup_a, frng_a]
  have d14 : H 178 14 = 0 := by rw [eH]; simp (disch := omega) only [fup_s, fup_k, fup_a, frng_a]
  have d181 : H 181 = h 181 := by rw [eH]; simp (disch := omega) only [fup_r, frng_r]
  have d182 : ∀ k, 0 ≤ k → k < 164 → H 182 k = up1 (up1 (fun _ => 0) 2 4) 3 1 k := fun k k1 k2 => by
    rw [eH, fup_a (by omega), fup_self, fup_self]
    unfold up1
    rw [frng_in k1 k2]
  have hf0 : QFr h H := ⟨fun a a1 a2 a3 => by rw [eH]; simp (disch := omega) only [fup_r, frng_r], fun k hk => by rw [eH]; simp (disch := omega) only [fup_s, fup_k, fup_a, frng_a], by rw [eH]; simp (disch := omega) only [fup_s, fup_k, fup_a, frng_a], by rw [eH]; simp (disch := omega) only [fup_s, fup_k, fup_a, frng_a]⟩
  clear eH
  refine C_advance hW d5 d7 hn2 (by omega) (by omega) (b := b) (fun k k1 k2 => by rw [d181]; exact hb k k1 k2) (fun h1 hv => ?_)
  obtain ⟨v1, v2, v3, v4, v5, v6, v7⟩ := hv
  have hT : RT h1 b n 0 := ⟨by rw [v2 5 (by omega)]; exact d5, v3, v4, v5, v6, v7, al_0, fun k k1 k2 => by rw [v1 181 (by omega), d181]; exact hb k k1 k2⟩
  have e11 : h1 178 11 = 0 := by rw [v2 11 (by omega)]; exact d11
  have f1 : QFr h h1 := qfr_t hf0 (rfr_178 v1 (fun k hk => v2 k (by omega)))
  have g6 := hT.2.1
  by_cases k1 : isK b n 0 (-1)
  · have hk : kk b n 0 ≠ 0 := by rw [k1.1]; omega
    have hpt : ∀ X, (match pNum b n 1 4 1 with
        | Sum.inl e => Sum.inl e
        | Sum.inr c => if kk b n 2 = 3 then pLoop b n 600 (3, T00 c, fun _ => [], 0) else Sum.inl (1, ss b n 2)) = X → pTop b n = X := fun X z => by
      unfold pTop
      rw [if_neg (show ¬ ¬ (kk b n 0 = 1 ∧ ww b n 0 = kw (-1)) from fun y => y k1)]
      exact z
    simp (disch := first | assumption | omega) only [st_X8_parse_0, st_X8_parse_1, ↓if_pos, ↓if_neg, if_pos, if_neg, ↓reduceIte, true_and, and_true, false_and, and_false, true_or, or_true, false_or, or_false, w32_id, Kv, Kn, fup_s, fup_a, fup_k, fup_fup, Int.reduceAdd, Int.reduceSub, Int.reduceMul, Int.reduceNeg, S_isWord hW hn hn2 hT (a := -1) (by omega) (by omega) (x := 1) (Or.inl ⟨rfl, k1⟩)]
    refine C_starts1 hW hn hn2 hT hk (fun h2 q1 q2 hT2 => ?_)
    have e11 : h2 178 11 = 0 := by rw [q2 11 (by omega)]; exact e11
    have f2 : QFr h h2 := qfr_t f1 (rfr_178 q1 (fun k hk => q2 k (by omega)))
    simp (disch := first | assumption | omega) only [st_X8_parse_0, st_X8_parse_1, ↓if_pos, ↓if_neg, if_pos, if_neg, ↓reduceIte, true_and, and_true, false_and, and_false, true_or, or_true, false_or, or_false, w32_id, Kv, Kn, fup_s, fup_a, fup_k, fup_fup, Int.reduceAdd, Int.reduceSub, Int.reduceMul, Int.reduceNeg]
    refine C_lays hW hn hn2 hT2 e11 (by omega) (by omega) (fun c e h' w1 w2 w3 => ?_) (fun c h3 w1 w2 w3 w4 w5 hT3 => ?_)
    · have w4 := w2.2.2.1
      have hKK := Kf c e h' (hpt _ (by rw [show pNum b n 1 4 1 = Sum.inl (c, e) from w1])) (qfr_t f2 (ff_r rfr_0 w2)) w3
      simp (disch := first | assumption | omega) only [st_X8_parse_0, st_X8_parse_1, ↓if_pos, ↓if_neg, if_pos, if_neg, ↓reduceIte, true_and, and_true, false_and, and_false, true_or, or_true, false_or, or_false, w32_id, Kv, Kn, fup_s, fup_a, fup_k, fup_fup, Int.reduceAdd, Int.reduceSub, Int.reduceMul, Int.reduceNeg]
      refine (sh_X8_parse_102).mpr ?_
      simp (disch := first | assumption | omega) only [st_X8_parse_0, st_X8_parse_1, ↓if_pos, ↓if_neg, if_pos, if_neg, ↓reduceIte, true_and, and_true, false_and, and_false, true_or, or_true, false_or, or_false, w32_id, Kv, Kn, fup_s, fup_a, fup_k, fup_fup, Int.reduceAdd, Int.reduceSub, Int.reduceMul, Int.reduceNeg, w4]
      exact hKK
    · have e11 : h3 178 11 = 0 := by rw [w5 11 (by omega) (by omega)]; exact e11
      have f3 : QFr h h3 := qfr_t f2 ⟨fun x x1 x2 x3 => w3 x x1 x2, fun k hk => w5 k (by omega) (by omega)⟩
      simp (disch := first | assumption | omega) only [st_X8_parse_0, st_X8_parse_1, ↓if_pos, ↓if_neg, if_pos, if_neg, ↓reduceIte, true_and, and_true, false_and, and_false, true_or, or_true, false_or, or_false, w32_id, Kv, Kn, fup_s, fup_a, fup_k, fup_fup, Int.reduceAdd, Int.reduceSub, Int.reduceMul, Int.reduceNeg]
      refine C_closes hW hn hn2 hT3 e11 (fun h' u1 u2 u3 => ?_) (fun h4 u1 u2 u3 hT4 => ?_)
      · have w4 := u2.2.2.1
        have hKK := Kf 1 (ss b n 2) h' (hpt _ (by rw [show pNum b n 1 4 1 = Sum.inr c from w1]; dsimp only; rw [if_neg (show ¬ kk b n 2 = 3 from u1)])) (qfr_t f3 (ff_r rfr_0 u2)) u3
        simp (disch := first | assumption | omega) only [st_X8_parse_0, st_X8_parse_1, ↓if_pos, ↓if_neg, if_pos, if_neg, ↓reduceIte, true_and, and_true, false_and, and_false, true_or, or_true, false_or, or_false, w32_id, Kv, Kn, fup_s, fup_a, fup_k, fup_fup, Int.reduceAdd, Int.reduceSub, Int.reduceMul, Int.reduceNeg]
        refine (sh_X8_parse_102).mpr ?_
        simp (disch := first | assumption | omega) only [st_X8_parse_0, st_X8_parse_1, ↓if_pos, ↓if_neg, if_pos, if_neg, ↓reduceIte, true_and, and_true, false_and, and_false, true_or, or_true, false_or, or_false, w32_id, Kv, Kn, fup_s, fup_a, fup_k, fup_fup, Int.reduceAdd, Int.reduceSub, Int.reduceMul, Int.reduceNeg, w4]
        exact hKK
      · have f4 : QFr h h4 := qfr_t f3 (rfr_178 u2 (fun k hk => u3 k (by omega)))
        have t1 : T00 c 1 = 0 := by unfold T00; rw [up1_k (by omega), up1_k (by omega), up1_k (by omega)]
        have hS : RSt h4 b n (3, T00 c, fun _ => [], 0) := ⟨hT4, ⟨by rw [u3 11 (by omega)]; exact e11, by rw [u3 12 (by omega), w5 12 (by omega) (by omega), q2 12 (by omega), v2 12 (by omega)]; exact d12⟩, ⟨by dsimp only; rw [u3 14 (by omega), w5 14 (by omega) (by omega), q2 14 (by omega), v2 14 (by omega)]; exact d14, Or.inl rfl⟩, fun i i1 i2 => by dsimp only at i2; omega, fun k k1 k2 => by
          dsimp only
          rw [u2 182 (by omega), w4, q1 182 (by omega), v1 182 (by omega)]
          unfold T00
          unfold up1
          have := d182 k k1 k2
          unfold up1 at this
          by_cases z : k = 0
          · rw [if_pos z, if_pos z]
          · rw [if_neg z, if_neg z]; exact this, dwf_00 (by omega) (by omega)⟩
        simp (disch := first | assumption | omega) only [st_X8_parse_0, st_X8_parse_1, ↓if_pos, ↓if_neg, if_pos, if_neg, ↓reduceIte, true_and, and_true, false_and, and_false, true_or, or_true, false_or, or_false, w32_id, Kv, Kn, fup_s, fup_a, fup_k, fup_fup, Int.reduceAdd, Int.reduceSub, Int.reduceMul, Int.reduceNeg]
        refine K_sLoop hW hn hn2 600 _ h4 (by dsimp only; omega) rfr_0 hS (fun c e h3 v1 v2 v3 v4 => ?_) (fun S3 h3 h5 v1 v2 v3 v4 => ?_)
        · exact Kf c e h3 (hpt _ (by rw [show pNum b n 1 4 1 = Sum.inr _ from w1]; dsimp only; rw [if_pos (show kk b n 2 = 3 from u1)]; exact v1)) (qfr_t f4 v2) v4
        · exact Ks S3 h3 h5 (hpt _ (by rw [show pNum b n 1 4 1 = Sum.inr _ from w1]; dsimp only; rw [if_pos (show kk b n 2 = 3 from u1)]; exact v1)) (qfr_t f4 v2) v3.2.1.2 v3.2.2.2.2.2 v4
  · have hff := ff_mk (h := h1) (c := 1)
    have hKK := Kf 1 (ss b n 0) _ (by unfold pTop; rw [if_pos (show ¬ (kk b n 0 = 1 ∧ ww b n 0 = kw (-1)) from k1)]) (qfr_t f1 (ff_r rfr_0 hff)) (by rw [hff.2.2.2]; exact g6)
    simp (disch := first | assumption | omega) only [st_X8_parse_0, st_X8_parse_1, ↓if_pos, ↓if_neg, if_pos, if_neg, ↓reduceIte, true_and, and_true, false_and, and_false, true_or, or_true, false_or, or_false, w32_id, Kv, Kn, fup_s, fup_a, fup_k, fup_fup, Int.reduceAdd, Int.reduceSub, Int.reduceMul, Int.reduceNeg, S_isWord hW hn hn2 hT (a := -1) (by omega) (by omega) (x := 0) (Or.inr ⟨rfl, k1⟩), S_starts0 hW e11]
    refine (sh_X8_parse_102).mpr ?_
    simp (disch := first | assumption | omega) only [st_X8_parse_0, st_X8_parse_1, ↓if_pos, ↓if_neg, if_pos, if_neg, ↓reduceIte, true_and, and_true, false_and, and_false, true_or, or_true, false_or, or_false, w32_id, Kv, Kn, fup_s, fup_a, fup_k, fup_fup, Int.reduceAdd, Int.reduceSub, Int.reduceMul, Int.reduceNeg]
    exact hKK
theorem wf_swap {r : PF} {p q : Int} (hW : WFr r) : WFr (fup (fup r 1 6 p) 1 7 q) := by
  intro z hz
  have hne : ∀ z ∈ crT, ¬ (z.1 = 1 ∧ (z.2.1 = 6 ∨ z.2.1 = 7)) := by decide +kernel
  have h1 := hne z hz
  have e := hW z hz
  unfold fup
  rw [if_neg (by omega), if_neg (by omega)]
  exact e
/-- what the class's parse leaves alone -/
def CQ (h h' : PF) (p : Int) : Prop := (∀ a, a ≠ 2 → (a < 4 ∨ 8 < a) → (a < p ∨ p + 6 < a) → h' a = h a) ∧ h' 2 0 = 0
theorem C_parseC {n p q : Int} {b : Int → Int} {nx : Nat} {h r : PF} {s : Int → Int} {Q : PO → PY → Nat → PC → Prop} (hW : WFr r) (hn : 0 ≤ n) (hn2 : n ≤ 600) (hn4 : n ≤ h 2 0) (hpq : p = 164 ∧ q = 171 ∨ p = 171 ∧ q = 164) (e6 : r 1 6 = q) (e7 : r 1 7 = p) (hb : ∀ k, 0 ≤ k → k < n → h 3 k = b k ∧ -128 ≤ b k ∧ b k ≤ 127) (Kf : ∀ (c e : Int) (h' : PF), pTop b n = Sum.inl (c, e) → CQ h h' p → h' 2 2 = e → Q (Sum.inl (some (pI c))) LY nx (h', r, s)) (Ks : ∀ (S' : PSt) (h' : PF), pTop b n = Sum.inr S' → (∀ a, a ≠ 2 → (a < 4 ∨ 8 < a) → (a < p ∨ p + 6 < a) → a ≠ 21 → (a < 144 ∨ 153 < a) → h' a = h a) → h' 2 0 = 0 → h' 2 2 = -1 → DWf S'.2.1 → DRel h' p S'.2.1 → BegS h' 144 S'.2.1 (S'.2.1 1) → h' 21 0 = 0 → h' 21 2 = 0 → h' 21 1 = h 21 1 → Q (Sum.inl (some (pI 0))) LY nx (h', fup (fup r 1 6 p) 1 7 q, s)) : Wp 85 0 [some (pR 1), some (pI n), none, none] [] LY nx (h, r, s) Q := by
  have hP : PlOk r p := by
    rcases hpq with z | z
    · rw [z.1]; exact plok_164 hW
    · rw [z.1]; exact plok_171 hW
  have hP00 := hP
  obtain ⟨⟨hp0, hpk⟩, ⟨hpr5, hpp5, hpd5⟩, ⟨hpr6, hpp6, hpd6⟩, ⟨hpr7, hpp7, hpd7⟩, ⟨hpr8, hpp8, hpd8⟩, ⟨hpr9, hpp9, hpd9⟩, ⟨hpr10, hpp10, hpd10⟩⟩ := hP00
  have hq0 : 0 < q := by omega
  have hkq : kd LY q = (0, 2) := by
    rcases hpq with z | z
    · rw [z.2]; exact (plok_171 hW).1.2
    · rw [z.2]; exact (plok_164 hW).1.2
  have hW' : WFr (fup (fup r 1 6 p) 1 7 q) := wf_swap hW
  have hP' : PlOk (fup (fup r 1 6 p) 1 7 q) p := by
    rcases hpq with z | z
    · rw [z.1, z.2]; exact plok_164 (wf_swap hW)
    · rw [z.1, z.2]; exact plok_171 (wf_swap hW)
  simp (disch := first | assumption | omega) only [st_X7_parse, ↓if_pos, ↓if_neg, if_pos, if_neg, ↓reduceIte, true_and, and_true, false_and, and_false, true_or, or_true, false_or, or_false, w32_id, Kv, Kn, fup_s, fup_a, fup_k, fup_fup, Int.reduceAdd, Int.reduceSub, Int.reduceMul, Int.reduceNeg, S_checkArgument, e7]
  refine C_readInto hW hn hn2 hb hP (by omega) (fun c e h' q1 q2 q3 q4 q5 => ?_) (fun S' h1 q1 q2 q3 q4 q5 hS => ?_)
  · have hKK := Kf c e (fup h' 2 0 0) q1 ⟨fun a a1 a2 a3 => by rw [fup_r a1]; exact q2 a a1 a2 a3, by rw [fup_s]⟩ (by rw [fup_k (by omega)]; exact q5)
    simp (disch := first | assumption | omega) only [st_X7_parse, ↓if_pos, ↓if_neg, if_pos, if_neg, ↓reduceIte, true_and, and_true, false_and, and_false, true_or, or_true, false_or, or_false, w32_id, Kv, Kn, fup_s, fup_a, fup_k, fup_fup, Int.reduceAdd, Int.reduceSub, Int.reduceMul, Int.reduceNeg, q4]
    exact hKK
  · obtain ⟨j, T, W, tr⟩ := S'
    obtain ⟨hC, _, _, hD, hDW⟩ := hS
    dsimp only at hC hD hDW
    have hD1 : DRel (fup h1 2 0 0) p T := dr_fr (fun a a1 a2 => fup_r (by omega)) hD
    have g67 : fup (fup r 1 6 p) 1 7 q 1 6 = p := by rw [fup_k (by omega), fup_s]
    have k0 : fup r 1 6 p 1 7 = p := by rw [fup_k (by omega)]; exact e7
    simp (disch := first | assumption | omega) only [st_X7_parse, st_X1_empty, ↓if_pos, ↓if_neg, if_pos, if_neg, ↓reduceIte, true_and, and_true, false_and, and_false, true_or, or_true, false_or, or_false, w32_id, Kv, Kn, fup_s, fup_a, fup_k, fup_fup, Int.reduceAdd, Int.reduceSub, Int.reduceMul, Int.reduceNeg, e6, e7, g67, k0]
    refine C_beginS hW' hP' (by omega) hDW hD1 (fun h2 b1 b2 => ?_)
    have r2 : h2 2 = fup h1 2 0 0 2 := b1 2 (by omega)
    have r21 : h2 21 = h 21 := by rw [b1 21 (by omega), fup_r (by omega), q2 21 (by omega) (by omega) (by omega)]
    have e21 : h2 2 1 = 0 := by rw [r2, fup_k (by omega)]; exact q4
    have hKK := Ks (j, T, W, tr) (fup (fup h2 21 0 0) 21 2 0) q1 (fun a a1 a2 a3 a4 a5 => by rw [fup_r a4, fup_r a4, b1 a a5, fup_r a1]; exact q2 a a1 a2 a3) (by rw [fup_a (by omega), fup_a (by omega), r2, fup_s]) (by rw [fup_a (by omega), fup_a (by omega), r2, fup_k (by omega)]; exact q5) hDW (dr_fr (fun a a1 a2 => by rw [fup_r (by omega), fup_r (by omega), b1 a (by omega)]) hD1) ?_ (by rw [fup_k (by omega), fup_s]) (by rw [fup_s]) (by rw [fup_k (by omega), fup_k (by omega), r21])
    simp (disch := first | assumption | omega) only [st_X7_parse, st_X1_empty, ↓if_pos, ↓if_neg, if_pos, if_neg, ↓reduceIte, true_and, and_true, false_and, and_false, true_or, or_true, false_or, or_false, w32_id, Kv, Kn, fup_s, fup_a, fup_k, fup_fup, Int.reduceAdd, Int.reduceSub, Int.reduceMul, Int.reduceNeg, e21]
    · exact hKK
    · unfold BegS at b2 ⊢
      dsimp only
      rw [fup_r (by omega), fup_r (by omega), fup_r (by omega), fup_r (by omega), fup_r (by omega), fup_r (by omega), fup_r (by omega), fup_r (by omega), fup_r (by omega), fup_r (by omega), fup_r (by omega), fup_r (by omega), fup_r (by omega), fup_r (by omega), fup_r (by omega), fup_r (by omega)]
      exact b2
