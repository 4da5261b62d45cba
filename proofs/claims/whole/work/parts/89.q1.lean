/-! QUESTION 1: PARSE -/
theorem begs_ag {h : PF} {b c : Int} {T T' : Int → Int} (he : ∀ k, 0 ≤ k → k < 164 → T' k = T k) (hc : c ≤ 4) (hS : BegS h b T c) : BegS h b T' c := by
  refine ⟨hS.1, hS.2.1, fun m m1 m2 => ?_⟩
  have b := hS.2.2 m m1 m2
  rw [ag_gO he m1 (by omega) (by omega) (by omega), ag_gO he m1 (by omega) (by omega) (by omega)]
  exact ⟨b.1, fun t t1 t2 => by rw [ag_gS he m1 (by omega) t1 t2 (by omega) (by omega)]; exact b.2 t t1 t2⟩
theorem inv_fail {h H r : PF} {p : Int} (hI : Inv h r) (hp : p = 164 ∧ r 1 6 = 171 ∨ p = 171 ∧ r 1 6 = 164) (hc : ∀ a, a ≠ 2 → (a < 4 ∨ 8 < a) → (a < p ∨ p + 6 < a) → a ≠ 178 → a ≠ 182 → a ≠ 183 → a ≠ 195 → H a = h a) (h20 : H 2 0 = 0) (h4 : H 178 4 = 0) (h22 : H 2 2 = H 178 12) (h26 : H 178 26 = h 178 26) : Inv H r := by
  obtain ⟨hr, hT, hN, hR, hS, ⟨u1, u2, u3, u4⟩, hL, ⟨x1, x2, x3, x4⟩, hF⟩ := hI
  have c : ∀ a, a ≠ 2 → (a < 4 ∨ 8 < a) → (a < 164 ∨ 177 < a) → a ≠ 178 → a ≠ 182 → a ≠ 183 → a ≠ 195 → H a = h a := fun a a1 a2 a3 a4 a5 a6 a7 => hc a a1 a2 (by omega) a4 a5 a6 a7
  have e179 : H 179 = h 179 := c 179 (by omega) (by omega) (by omega) (by omega) (by omega) (by omega) (by omega)
  have e180 : H 180 = h 180 := c 180 (by omega) (by omega) (by omega) (by omega) (by omega) (by omega) (by omega)
  have e192 : H 192 = h 192 := c 192 (by omega) (by omega) (by omega) (by omega) (by omega) (by omega) (by omega)
  have e21 : H 21 = h 21 := c 21 (by omega) (by omega) (by omega) (by omega) (by omega) (by omega) (by omega)
  unfold Inv
  rw [e179, e180]
  refine ⟨hr, hT, hN, pr_fr (fun a h1 h2 => hc a (by omega) (by omega) (by omega) (by omega) (by omega) (by omega) (by omega)) hR, sr_fr (fun a h1 h2 => c a (by omega) (by omega) (by omega) (by omega) (by omega) (by omega) (by omega)) hS, ?_, slot_fr hL (by rw [e21]) (c 194 (by omega) (by omega) (by omega) (by omega) (by omega) (by omega) (by omega)) (c 193 (by omega) (by omega) (by omega) (by omega) (by omega) (by omega) (by omega)) (fun a h1 h2 => c a (by omega) (by omega) (by omega) (by omega) (by omega) (by omega) (by omega)), ?_, search_fr hF (c 15 (by omega) (by omega) (by omega) (by omega) (by omega) (by omega) (by omega)) (c 16 (by omega) (by omega) (by omega) (by omega) (by omega) (by omega) (by omega)) (c 17 (by omega) (by omega) (by omega) (by omega) (by omega) (by omega) (by omega))⟩
  · unfold UndoRel
    rw [e21, h26]
    refine ⟨u1, u2, u3, fun q h1 h2 => ?_⟩
    have hb := undoB_rng u3.1 u3.2 u2.1 u2.2 h1 h2
    have eu : uRow H 192 q = uRow h 192 q := by unfold uRow; rw [e192]
    rw [eu]
    exact ⟨sr_fr (fun a h3 h4 => c a (by omega) (by omega) (by omega) (by omega) (by omega) (by omega) (by omega)) (u4 q h1 h2).1, (u4 q h1 h2).2⟩
  · unfold TextRel
    rw [h20, h4, h22]
    exact ⟨by omega, rfl, fun k h1 h2 => absurd h2 (by omega), rfl⟩
theorem inv_new {h H r : PF} {p q : Int} {T : Int → Int} (hI : Inv h r) (hpq : p = 164 ∧ q = 171 ∨ p = 171 ∧ q = 164) (c15 : H 15 = h 15) (c16 : H 16 = h 16) (c17 : H 17 = h 17) (h20 : H 2 0 = 0) (h4 : H 178 4 = 0) (h22 : H 2 2 = H 178 12) (h26 : H 178 26 = 0) (h210 : H 21 0 = 0) (h211 : H 21 1 = h 21 1) (h212 : H 21 2 = 0) (h194 : H 194 0 = 0) (h1941 : H 194 1 = 0) (hD : DWf T) (he : ∀ k, 0 ≤ k → k < 164 → H 179 k = T k) (hR : DRel H p T) (hS : BegS H 144 T (T 1)) (hN : BegN (H 179) (H 180) (T 1)) : Inv H (fup (fup r 1 6 p) 1 7 q) := by
  obtain ⟨hr, _, _, _, _, ⟨u1, u2, u3, u4⟩, hL, _, hF⟩ := hI
  have hDH : DWf (H 179) := dwf_ag he hD
  have e1 : H 179 1 = T 1 := he 1 (by omega) (by omega)
  have hT1 := hD.2.1
  rw [← e1] at hN hS
  have g6 : fup (fup r 1 6 p) 1 7 q 1 6 = p := by rw [fup_k (by omega), fup_s]
  have g7 : fup (fup r 1 6 p) 1 7 q 1 7 = q := by rw [fup_s]
  unfold Inv
  rw [g6]
  refine ⟨⟨wf_swap hr.1, ?_, ?_⟩, dwf_twf hDH, beg_nwf hDH hN, dr_pr (dr_ag he hR) hDH, beg_st hN (begs_ag he (by omega) hS), ?_, ?_, ?_, search_fr hF c15 c16 c17⟩
  · rw [g6, g7]; omega
  · rw [fup_r (by omega), fup_r (by omega)]; exact hr.2.2
  · unfold UndoRel
    rw [h210, h26, h211]
    exact ⟨rfl, by omega, u3, fun k h1 h2 => absurd h2 (by omega)⟩
  · unfold SlotRel
    rw [h212]
    refine ⟨by omega, fun k h1 h2 => ?_⟩
    have : H 194 k = 0 := by
      have : k = 0 ∨ k = 1 := by omega
      rcases this with z | z
      · rw [z]; exact h194
      · rw [z]; exact h1941
    rw [this, bit0 h1 (by omega)]
    exact ⟨Or.inl rfl, by omega, fun z => absurd z (by omega)⟩
  · unfold TextRel
    rw [h20, h4, h22]
    exact ⟨by omega, rfl, fun k h1 h2 => absurd h2 (by omega), rfl⟩
theorem Q_1 {i : Int} {l5 l6 : Option PV} {nx : Nat} {h r : PF} {s : Int → Int} {Q : PO → PY → Nat → PC → Prop} (hI : Inv h r) (hi : 0 ≤ i) (hi2 : i + 5 < s (-1)) (hi3 : s (-1) ≤ 4000) (H : ∀ (a b : Option PV) (nx' : Nat) (h' r' : PF), Inv h' r' → nx' ≤ nx + 1 → Wp 257 2079 [some (pR (-1000)), some (pR 1), some (pR 178), some (pR 195), some (pI i), a, b, none] [] LY nx' (h', r', s) Q) : Wp 257 265 [some (pR (-1000)), some (pR 1), some (pR 178), some (pR 195), some (pI i), l5, l6, none] [] LY nx (h, r, s) Q := by
  obtain ⟨hW, hp0, hp1, hp2, hpk, hP, hS0, hk144, hT, hN, hR, hS, ep0, ep1, ep3, ep4, hT0, hT1⟩ := beg_of hI
  have k153 : kd LY 153 = (1, 80) := by decide +kernel
  have k152 : kd LY 152 = (1, 6) := by decide +kernel
  have k151 : kd LY 151 = (1, 60) := by decide +kernel
  obtain ⟨⟨hs0, hsk⟩, ⟨hsr0, hsp0, hsd0⟩, ⟨hsr1, hsp1, hsd1⟩, ⟨hsr2, hsp2, hsd2⟩, ⟨hsr3, hsp3, hsd3⟩, ⟨hsr4, hsp4, hsd4⟩, ⟨hsr5, hsp5, hsd5⟩, ⟨hsr6, hsp6, hsd6⟩, ⟨hsr7, hsp7, hsd7⟩, ⟨hsr12, hsp12, hsd12⟩⟩ := stok_144 hW
  obtain ⟨x1, x2, x3, x4⟩ := hI.2.2.2.2.2.2.2.1
  have hpq := hI.1.2.1
  by_cases hc : s (i + 1) < 0 ∨ h 2 0 < s (i + 1)
  · skip
    simp (disch := first | assumption | omega | (simp (disch := omega) only [fup_s, fup_k, fup_a, fup_r, frow_s, frow_r, frow_sk, frow_rk, fcpy_r, frng_r]; assumption) | (simp (disch := omega) only [fup_s, fup_k, fup_a, fup_r, frow_s, frow_r, frow_sk, frow_rk, fcpy_r, frng_r]; omega)) only [st_law_1, st_L_parse, st_X7_parse, st_X8_parse_0, st_X8_parse_1, ↓if_pos, ↓if_neg, if_pos, if_neg, ↓reduceIte, true_and, and_true, false_and, and_false, true_or, or_true, false_or, or_false, w32_id, Kv, Kn, fup_s, fup_a, fup_k, fup_fup, Int.reduceAdd, Int.reduceSub, Int.reduceMul, Int.reduceNeg, S_thrown, fup_s, fup_k, fup_a, fup_r, frow_s, frow_r, frow_sk, frow_rk, fcpy_r, frng_r, plcmp_eq, S_within, S_throwsIf, S_checkArgument, kh_L_parse_0, kx_X7_parse, x2]
    all_goals ((try split) <;> exact H _ _ _ _ _ (inv_same hI ⟨fun a ha => by unfold Core at ha; simp (disch := omega) only [fup_r, frow_r], by simp (disch := omega) only [fup_k, fup_a, frow_rk], by simp (disch := omega) only [fup_k, fup_a, frow_rk], by simp (disch := omega) only [fup_k, fup_a, frow_rk]⟩) (by omega))
  have hc1 : 0 ≤ s (i + 1) ∧ s (i + 1) ≤ h 2 0 := by omega
  have hb3 : ∀ k, 0 ≤ k → k < s (i + 1) → h 3 k = h 181 k ∧ -128 ≤ h 181 k ∧ h 181 k ≤ 127 := fun k k1 k2 => x3 k k1 (by omega)
  have hb181 : ∀ k, 0 ≤ k → k < s (i + 1) → h 181 k = h 181 k ∧ -128 ≤ h 181 k ∧ h 181 k ≤ 127 := fun k k1 k2 => ⟨rfl, (x3 k k1 (by omega)).2⟩
  have hpq2 : ∃ p q, (p = 164 ∧ q = 171 ∨ p = 171 ∧ q = 164) ∧ r 1 6 = q ∧ r 1 7 = p := by
    rcases hpq with z | z
    · exact ⟨171, 164, Or.inr ⟨rfl, rfl⟩, z.1, z.2⟩
    · exact ⟨164, 171, Or.inl ⟨rfl, rfl⟩, z.1, z.2⟩
  obtain ⟨p, q, hpq3, e6, e7⟩ := hpq2
  simp (disch := first | assumption | omega | (simp (disch := omega) only [fup_s, fup_k, fup_a, fup_r, frow_s, frow_r, frow_sk, frow_rk, fcpy_r, frng_r]; assumption) | (simp (disch := omega) only [fup_s, fup_k, fup_a, fup_r, frow_s, frow_r, frow_sk, frow_rk, fcpy_r, frng_r]; omega)) only [st_law_1, st_L_parse, ↓if_pos, ↓if_neg, if_pos, if_neg, ↓reduceIte, true_and, and_true, false_and, and_false, true_or, or_true, false_or, or_false, w32_id, Kv, Kn, fup_s, fup_a, fup_k, fup_fup, Int.reduceAdd, Int.reduceSub, Int.reduceMul, Int.reduceNeg, S_thrown, fup_s, fup_k, fup_a, fup_r, frow_s, frow_r, frow_sk, frow_rk, fcpy_r, frng_r, plcmp_eq]
  refine C_parseC (b := h 181) hW hc1.1 (by omega) hc1.2 hpq3 e6 e7 hb3 (fun c e h1 y1 y2 y3 => ?_) (fun S' h1 y1 y2 y3 y4 yD yR yS z0 z2 z1 => ?_)
  · have f178 : h1 178 = h 178 := y2.1 178 (by omega) (by omega) (by omega)
    have f181 : h1 181 = h 181 := y2.1 181 (by omega) (by omega) (by omega)
    simp (disch := first | assumption | omega | (simp (disch := omega) only [fup_s, fup_k, fup_a, fup_r, frow_s, frow_r, frow_sk, frow_rk, fcpy_r, frng_r]; assumption) | (simp (disch := omega) only [fup_s, fup_k, fup_a, fup_r, frow_s, frow_r, frow_sk, frow_rk, fcpy_r, frng_r]; omega)) only [st_law_1, st_L_parse, ↓if_pos, ↓if_neg, if_pos, if_neg, ↓reduceIte, true_and, and_true, false_and, and_false, true_or, or_true, false_or, or_false, w32_id, Kv, Kn, fup_s, fup_a, fup_k, fup_fup, Int.reduceAdd, Int.reduceSub, Int.reduceMul, Int.reduceNeg, S_thrown, fup_s, fup_k, fup_a, fup_r, frow_s, frow_r, frow_sk, frow_rk, fcpy_r, frng_r, plcmp_eq, kh_L_parse_0, kx_X7_parse]
    refine C_parseR (b := h 181) hW hc1.1 (by omega) (by simp (disch := omega) only [fup_s, fup_k, fup_a, fup_r, f178, x2]; omega) (fun k k1 k2 => ⟨by simp (disch := omega) only [fup_s, fup_k, fup_a, fup_r, f181], (hb181 k k1 k2).2⟩) (fun c2 e2 h2 w1 w2 w3 => ?_) (fun S2 h2 h3 w1 w2 w3 w4 w5 => ?_)
    · rw [y1] at w1
      have ec : c2 = c := (congrArg Prod.fst (Sum.inl.inj w1)).symm
      have ee : e2 = e := (congrArg Prod.snd (Sum.inl.inj w1)).symm
      have t0 := w2.2.2.1
      have g195 : h2 195 0 = c := by rw [w2.1 195 (by omega) (by omega) (by omega)]; simp (disch := omega) only [fup_s, fup_k, fup_a, fup_r]
      simp (disch := first | assumption | omega | (simp (disch := omega) only [fup_s, fup_k, fup_a, fup_r, frow_s, frow_r, frow_sk, frow_rk, fcpy_r, frng_r]; assumption) | (simp (disch := omega) only [fup_s, fup_k, fup_a, fup_r, frow_s, frow_r, frow_sk, frow_rk, fcpy_r, frng_r]; omega)) only [st_law_1, st_L_parse, ↓if_pos, ↓if_neg, if_pos, if_neg, ↓reduceIte, true_and, and_true, false_and, and_false, true_or, or_true, false_or, or_false, w32_id, Kv, Kn, fup_s, fup_a, fup_k, fup_fup, Int.reduceAdd, Int.reduceSub, Int.reduceMul, Int.reduceNeg, S_thrown, fup_s, fup_k, fup_a, fup_r, frow_s, frow_r, frow_sk, frow_rk, fcpy_r, frng_r, plcmp_eq, t0, g195, ec]
      refine H _ _ _ _ _ (inv_fail (p := p) hI (by omega) (fun a a1 a2 a3 a4 a5 a6 a7 => ?_) ?_ ?_ ?_ ?_) (by omega)
      · (try simp (disch := omega) only [fup_s, fup_k, fup_a, fup_r])
        rw [w2.1 a a4 a5 a6]
        (try simp (disch := omega) only [fup_s, fup_k, fup_a, fup_r])
        exact y2.1 a a1 a2 a3
      · (try simp (disch := omega) only [fup_s, fup_k, fup_a, fup_r])
        rw [w2.1 2 (by omega) (by omega) (by omega)]
        (try simp (disch := omega) only [fup_s, fup_k, fup_a, fup_r])
        exact y2.2
      · (try simp (disch := omega) only [fup_s, fup_k, fup_a, fup_r])
        exact w2.2.2.2
      · (try simp (disch := omega) only [fup_s, fup_k, fup_a, fup_r])
        rw [w2.1 2 (by omega) (by omega) (by omega), w3, ee]
        (try simp (disch := omega) only [fup_s, fup_k, fup_a, fup_r])
        exact y3
      · (try simp (disch := omega) only [fup_s, fup_k, fup_a, fup_r])
        rw [w2.2.1 26 (by omega)]
        (try simp (disch := omega) only [fup_s, fup_k, fup_a, fup_r, f178])
    · rw [y1] at w1
      cases w1
  · have f178 : h1 178 = h 178 := y2 178 (by omega) (by omega) (by omega) (by omega) (by omega)
    have f181 : h1 181 = h 181 := y2 181 (by omega) (by omega) (by omega) (by omega) (by omega)
    have hW' : WFr (fup (fup r 1 6 p) 1 7 q) := wf_swap hW
    simp (disch := first | assumption | omega | (simp (disch := omega) only [fup_s, fup_k, fup_a, fup_r, frow_s, frow_r, frow_sk, frow_rk, fcpy_r, frng_r]; assumption) | (simp (disch := omega) only [fup_s, fup_k, fup_a, fup_r, frow_s, frow_r, frow_sk, frow_rk, fcpy_r, frng_r]; omega)) only [st_law_1, st_L_parse, ↓if_pos, ↓if_neg, if_pos, if_neg, ↓reduceIte, true_and, and_true, false_and, and_false, true_or, or_true, false_or, or_false, w32_id, Kv, Kn, fup_s, fup_a, fup_k, fup_fup, Int.reduceAdd, Int.reduceSub, Int.reduceMul, Int.reduceNeg, S_thrown, fup_s, fup_k, fup_a, fup_r, frow_s, frow_r, frow_sk, frow_rk, fcpy_r, frng_r, plcmp_eq, kh_L_parse_0, kx_X7_parse]
    refine C_parseR (b := h 181) hW' hc1.1 (by omega) (by simp (disch := omega) only [fup_s, fup_k, fup_a, fup_r, f178, x2]; omega) (fun k k1 k2 => ⟨by simp (disch := omega) only [fup_s, fup_k, fup_a, fup_r, f181], (hb181 k k1 k2).2⟩) (fun c2 e2 h2 w1 w2 w3 => ?_) (fun S2 h2 h3 w1 w2 w3 w4 w5 => ?_)
    · rw [y1] at w1
      cases w1
    · rw [y1] at w1
      have eS : S' = S2 := Sum.inr.inj w1
      rw [← eS] at w4 w5
      obtain ⟨b1, b2, b3, b4, b5, b6, b7⟩ := w5
      have t0 : h3 178 0 = 0 := by rw [b2 0 (by omega)]; exact w2.2.2.1
      have h1f : ∀ a, a ≠ 178 → a ≠ 179 → a ≠ 180 → a ≠ 194 → a ≠ 182 → a ≠ 183 → a ≠ 195 → h3 a = h1 a := fun a a1 a2 a3 a4 a5 a6 a7 => by
        rw [b1 a a1 a2 a3 a4, w2.1 a a1 a5 a6]
        (try simp (disch := omega) only [fup_s, fup_k, fup_a, fup_r])
      have g195 : h3 195 0 = 0 := by rw [b1 195 (by omega) (by omega) (by omega) (by omega), w2.1 195 (by omega) (by omega) (by omega)]; simp (disch := omega) only [fup_s, fup_k, fup_a, fup_r]
      have b178 : ∀ k, k ≠ 26 → h3 178 k = h2 178 k := b2
      simp (disch := first | assumption | omega | (simp (disch := omega) only [fup_s, fup_k, fup_a, fup_r, frow_s, frow_r, frow_sk, frow_rk, fcpy_r, frng_r]; assumption) | (simp (disch := omega) only [fup_s, fup_k, fup_a, fup_r, frow_s, frow_r, frow_sk, frow_rk, fcpy_r, frng_r]; omega)) only [st_law_1, st_L_parse, ↓if_pos, ↓if_neg, if_pos, if_neg, ↓reduceIte, true_and, and_true, false_and, and_false, true_or, or_true, false_or, or_false, w32_id, Kv, Kn, fup_s, fup_a, fup_k, fup_fup, Int.reduceAdd, Int.reduceSub, Int.reduceMul, Int.reduceNeg, S_thrown, fup_s, fup_k, fup_a, fup_r, frow_s, frow_r, frow_sk, frow_rk, fcpy_r, frng_r, plcmp_eq, t0, g195]
      refine H _ _ _ _ _ (inv_new (p := p) (q := q) (T := S'.2.1) hI hpq3 ?_ ?_ ?_ ?_ ?_ ?_ ?_ ?_ ?_ ?_ ?_ ?_ w4 ?_ ?_ ?_ ?_) (by omega)
      · (try simp (disch := omega) only [fup_s, fup_k, fup_a, fup_r])
        rw [h1f 15 (by omega) (by omega) (by omega) (by omega) (by omega) (by omega) (by omega)]
        exact y2 15 (by omega) (by omega) (by omega) (by omega) (by omega)
      · (try simp (disch := omega) only [fup_s, fup_k, fup_a, fup_r])
        rw [h1f 16 (by omega) (by omega) (by omega) (by omega) (by omega) (by omega) (by omega)]
        exact y2 16 (by omega) (by omega) (by omega) (by omega) (by omega)
      · (try simp (disch := omega) only [fup_s, fup_k, fup_a, fup_r])
        rw [h1f 17 (by omega) (by omega) (by omega) (by omega) (by omega) (by omega) (by omega)]
        exact y2 17 (by omega) (by omega) (by omega) (by omega) (by omega)
      · (try simp (disch := omega) only [fup_s, fup_k, fup_a, fup_r])
        rw [h1f 2 (by omega) (by omega) (by omega) (by omega) (by omega) (by omega) (by omega)]
        exact y3
      · (try simp (disch := omega) only [fup_s, fup_k, fup_a, fup_r])
        rw [b2 4 (by omega)]
        exact w2.2.2.2
      · (try simp (disch := omega) only [fup_s, fup_k, fup_a, fup_r])
        rw [h1f 2 (by omega) (by omega) (by omega) (by omega) (by omega) (by omega) (by omega), y4, b2 12 (by omega)]
        exact w3.symm
      · (try simp (disch := omega) only [fup_s, fup_k, fup_a, fup_r])
        exact b3
      · (try simp (disch := omega) only [fup_s, fup_k, fup_a, fup_r])
        rw [h1f 21 (by omega) (by omega) (by omega) (by omega) (by omega) (by omega) (by omega)]
        exact z0
      · (try simp (disch := omega) only [fup_s, fup_k, fup_a, fup_r])
        rw [h1f 21 (by omega) (by omega) (by omega) (by omega) (by omega) (by omega) (by omega)]
        exact z1
      · (try simp (disch := omega) only [fup_s, fup_k, fup_a, fup_r])
        rw [h1f 21 (by omega) (by omega) (by omega) (by omega) (by omega) (by omega) (by omega)]
        exact z2
      · (try simp (disch := omega) only [fup_s, fup_k, fup_a, fup_r])
        exact b4
      · (try simp (disch := omega) only [fup_s, fup_k, fup_a, fup_r])
        exact b5
      · intro k k1 k2
        (try simp (disch := omega) only [fup_s, fup_k, fup_a, fup_r])
        exact b6 k k1 k2
      · refine dr_fr (fun a a1 a2 => ?_) yR
        (try simp (disch := omega) only [fup_s, fup_k, fup_a, fup_r])
        exact h1f a (by omega) (by omega) (by omega) (by omega) (by omega) (by omega) (by omega)
      · have e144 : ∀ a, 144 ≤ a → a ≤ 152 → h3 a = h1 a := fun a a1 a2 => h1f a (by omega) (by omega) (by omega) (by omega) (by omega) (by omega) (by omega)
        unfold BegS at yS ⊢
        simp only [Int.reduceAdd] at yS ⊢
        (try simp (disch := omega) only [fup_s, fup_k, fup_a, fup_r])
        rw [e144 144 (by omega) (by omega), e144 145 (by omega) (by omega), e144 146 (by omega) (by omega), e144 147 (by omega) (by omega), e144 148 (by omega) (by omega), e144 149 (by omega) (by omega), e144 150 (by omega) (by omega), e144 152 (by omega) (by omega)]
        exact yS
      · (try simp (disch := omega) only [fup_s, fup_k, fup_a, fup_r])
        exact b7
