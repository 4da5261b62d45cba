theorem S_goOrDie {m t l : Int} {nx : Nat} {h r : PF} {s : Int → Int} {Q : PO → PY → Nat → PC → Prop} (hW : WFr r) (hT : TWf (h 179)) (hm : 0 ≤ m) (hm2 : m < h 179 1) (ht : 0 ≤ t) (ht2 : t ≤ 6) (hl : 0 ≤ l) (hl2 : l < 4) : Wp 209 0 [some (pR 178), some (pI m), some (pI t), some (pI l)] [] LY nx (h, r, s) Q ↔ Q (Sum.inl (some (pI (if t = 0 then 0 else gGo (h 179) m (t - 1) l + 1)))) LY nx (h, r, s) := by
  have hT1 := hT.2.1
  by_cases hc : t = 0
  · rw [if_pos hc]
    simp (disch := first | assumption | omega) only [st_X8_goOrDie, ↓if_pos, ↓if_neg, if_pos, if_neg, ↓reduceIte, true_and, and_true, false_and, and_false, true_or, or_true, false_or, or_false, w32_id, Kv, Kn, fup_s, fup_a, fup_k, fup_fup, Int.reduceAdd, Int.reduceSub, Int.reduceMul, Int.reduceNeg]
  · rw [if_neg hc]
    have hg := gGo_lt hT hm hm2 (show 0 ≤ t - 1 by omega) (show t - 1 < 6 by omega) hl hl2
    have h6 := (hT.2.2.2.2.2 m hm hm2).1.2.2.2.1
    simp (disch := first | assumption | omega) only [st_X8_goOrDie, ↓if_pos, ↓if_neg, if_pos, if_neg, ↓reduceIte, true_and, and_true, false_and, and_false, true_or, or_true, false_or, or_false, w32_id, Kv, Kn, fup_s, fup_a, fup_k, fup_fup, Int.reduceAdd, Int.reduceSub, Int.reduceMul, Int.reduceNeg, S_goOf]
theorem S_isOver {m t : Int} {nx : Nat} {h r : PF} {s : Int → Int} {Q : PO → PY → Nat → PC → Prop} (hW : WFr r) (hm : 0 ≤ m) (hm2 : m < 4) (ht : 0 ≤ t) (ht2 : t ≤ 6) : Wp 210 0 [some (pR 178), some (pI m), some (pI t)] [] LY nx (h, r, s) Q ↔ if 0 < t ∧ gS (h 179) m (t - 1) 0 = 1 then Q (Sum.inl (some (pI 1))) LY nx (h, r, s) else Q (Sum.inl (some (pI 0))) LY nx (h, r, s) := by
  by_cases hc : 0 < t
  · skip
    simp (disch := first | assumption | omega) only [st_X8_isOver, ↓if_pos, ↓if_neg, if_pos, if_neg, ↓reduceIte, true_and, and_true, false_and, and_false, true_or, or_true, false_or, or_false, w32_id, Kv, Kn, fup_s, fup_a, fup_k, fup_fup, Int.reduceAdd, Int.reduceSub, Int.reduceMul, Int.reduceNeg, S_isEnd]
    (repeat' split) <;> first | rfl | (exfalso; omega)
  · rw [if_neg (fun z => hc z.1)]
    simp (disch := first | assumption | omega) only [st_X8_isOver, ↓if_pos, ↓if_neg, if_pos, if_neg, ↓reduceIte, true_and, and_true, false_and, and_false, true_or, or_true, false_or, or_false, w32_id, Kv, Kn, fup_s, fup_a, fup_k, fup_fup, Int.reduceAdd, Int.reduceSub, Int.reduceMul, Int.reduceNeg]
theorem F_accepted {m d : Int} {nx : Nat} {h r : PF} {s : Int → Int} {Q : PO → PY → Nat → PC → Prop} (hW : WFr r) (hT : TWf (h 179)) (hN : NWf (h 179) (h 180)) (hm : 0 ≤ m) (hm2 : m < h 179 1) (hd : d = 0 ∨ d = 1) (hde : d = 1 ↔ 0 < gWk (h 179) (h 180) m (h 180 3).toNat ∧ gS (h 179) m (gWk (h 179) (h 180) m (h 180 3).toNat - 1) 0 = 1) (K : Q (Sum.inl (some (pI d))) LY nx (h, r, s)) : Wp 213 14 [some (pR 178), some (pI m), some (pI 1), some (pI 0)] [] LY nx (h, r, s) Q := by
  have hT0 := hT.1
  have hT1 := hT.2.1
  have hN3 := hN.1
  have h6 := (hT.2.2.2.2.2 m hm hm2).1.2.2.2.1
  refine loopL (Inv := fun i L => L = [some (pR 178), some (pI m), some (pI (gWk (h 179) (h 180) m i.toNat)), some (pI i)]) (a := 0) (n := h 180 3) (by omega) ?_ ?_ _ rfl
  · rintro i L hi hi2 rfl hK
    have hr := gWk_rng hT hN hm hm2 i.toNat (by omega)
    have hw := hN.2.1 i hi hi2
    have e1 : gWk (h 179) (h 180) m (i + 1).toNat = (if gWk (h 179) (h 180) m i.toNat = 0 then 0 else gGo (h 179) m (gWk (h 179) (h 180) m i.toNat - 1) (h 180 (4 + i)) + 1) := upto_s hi
    have hK2 := hK _ rfl
    rw [e1] at hK2
    rw [sh_X8_accepts_14]
    simp (disch := first | assumption | omega) only [st_X8_accepts, ↓if_pos, ↓if_neg, if_pos, if_neg, ↓reduceIte, true_and, and_true, false_and, and_false, true_or, or_true, false_or, or_false, w32_id, Kv, Kn, fup_s, fup_a, fup_k, fup_fup, Int.reduceAdd, Int.reduceSub, Int.reduceMul, Int.reduceNeg, S_goOrDie]
    exact hK2
  · rintro L rfl
    have hr := gWk_rng hT hN hm hm2 (h 180 3).toNat (by omega)
    rw [sh_X8_accepts_14]
    by_cases hc : 0 < gWk (h 179) (h 180) m (h 180 3).toNat ∧ gS (h 179) m (gWk (h 179) (h 180) m (h 180 3).toNat - 1) 0 = 1
    · rw [hde.mpr hc] at K
      simp (disch := first | assumption | omega) only [st_X8_accepts, ↓if_pos, ↓if_neg, if_pos, if_neg, ↓reduceIte, true_and, and_true, false_and, and_false, true_or, or_true, false_or, or_false, w32_id, Kv, Kn, fup_s, fup_a, fup_k, fup_fup, Int.reduceAdd, Int.reduceSub, Int.reduceMul, Int.reduceNeg, S_isOver, if_pos hc]
      exact K
    · have hd0 : d = 0 := by
        rcases hd with z | z
        · exact z
        · exact absurd (hde.mp z) hc
      rw [hd0] at K
      simp (disch := first | assumption | omega) only [st_X8_accepts, ↓if_pos, ↓if_neg, if_pos, if_neg, ↓reduceIte, true_and, and_true, false_and, and_false, true_or, or_true, false_or, or_false, w32_id, Kv, Kn, fup_s, fup_a, fup_k, fup_fup, Int.reduceAdd, Int.reduceSub, Int.reduceMul, Int.reduceNeg, S_isOver, if_neg hc]
      exact K
theorem Q_18 {i : Int} {l5 l6 : Option PV} {nx : Nat} {h r : PF} {s : Int → Int} {Q : PO → PY → Nat → PC → Prop} (hI : Inv h r) (hi : 0 ≤ i) (hi2 : i + 5 < s (-1)) (hi3 : s (-1) ≤ 4000) (H : ∀ (a b : Option PV) (nx' : Nat) (h' r' : PF), Inv h' r' → nx' ≤ nx + 1 → Wp 257 2079 [some (pR (-1000)), some (pR 1), some (pR 178), some (pR 195), some (pI i), a, b, none] [] LY nx' (h', r', s) Q) : Wp 257 1160 [some (pR (-1000)), some (pR 1), some (pR 178), some (pR 195), some (pI i), l5, l6, none] [] LY nx (h, r, s) Q := by
  obtain ⟨hW, hp0, hp1, hp2, hpk, hP, hS0, hk144, hT, hN, hR, hS, ep0, ep1, ep3, ep4, hT0, hT1⟩ := beg_of hI
  have k153 : kd LY 153 = (1, 80) := by decide +kernel
  have k152 : kd LY 152 = (1, 6) := by decide +kernel
  have k151 : kd LY 151 = (1, 60) := by decide +kernel
  obtain ⟨⟨hs0, hsk⟩, ⟨hsr0, hsp0, hsd0⟩, ⟨hsr1, hsp1, hsd1⟩, ⟨hsr2, hsp2, hsd2⟩, ⟨hsr3, hsp3, hsd3⟩, ⟨hsr4, hsp4, hsd4⟩, ⟨hsr5, hsp5, hsd5⟩, ⟨hsr6, hsp6, hsd6⟩, ⟨hsr7, hsp7, hsd7⟩, ⟨hsr12, hsp12, hsd12⟩⟩ := stok_144 hW
  by_cases hm : s (i + 1) < 0 ∨ h 179 1 ≤ s (i + 1)
  · simp (disch := first | assumption | omega | (simp (disch := omega) only [fup_s, fup_k, fup_a, fup_r, frow_s, frow_r, frow_sk, frow_rk, fcpy_r, frng_r]; assumption) | (simp (disch := omega) only [fup_s, fup_k, fup_a, fup_r, frow_s, frow_r, frow_sk, frow_rk, fcpy_r, frng_r]; omega)) only [st_law_18, st_L_accepts, st_X7_accepts, st_X8_accepts, ↓if_pos, ↓if_neg, if_pos, if_neg, ↓reduceIte, true_and, and_true, false_and, and_false, true_or, or_true, false_or, or_false, w32_id, Kv, Kn, fup_s, fup_a, fup_k, fup_fup, Int.reduceAdd, Int.reduceSub, Int.reduceMul, Int.reduceNeg, S_thrown, fup_s, fup_k, fup_a, fup_r, frow_s, frow_r, frow_sk, frow_rk, fcpy_r, frng_r, plcmp_eq, S_checkMachine, S_noMachine, kh_L_accepts_1, kx_X7_accepts]
    all_goals ((try split) <;> exact H _ _ _ _ _ (inv_same hI ⟨fun a ha => by unfold Core at ha; simp (disch := omega) only [fup_r, frow_r], by simp (disch := omega) only [fup_k, fup_a, frow_rk], by simp (disch := omega) only [fup_k, fup_a, frow_rk], by simp (disch := omega) only [fup_k, fup_a, frow_rk]⟩) (by omega))
  have hm1 : 0 ≤ s (i + 1) ∧ s (i + 1) < h 179 1 := by omega
  have hcd : ∃ d : Int, (d = 0 ∨ d = 1) ∧ (d = 1 ↔ 0 < gWk (h 179) (h 180) (s (i + 1)) (h 180 3).toNat ∧ gS (h 179) (s (i + 1)) (gWk (h 179) (h 180) (s (i + 1)) (h 180 3).toNat - 1) 0 = 1) := by
    by_cases hz : 0 < gWk (h 179) (h 180) (s (i + 1)) (h 180 3).toNat ∧ gS (h 179) (s (i + 1)) (gWk (h 179) (h 180) (s (i + 1)) (h 180 3).toNat - 1) 0 = 1
    · exact ⟨1, Or.inr rfl, fun _ => hz, fun _ => rfl⟩
    · exact ⟨0, Or.inl rfl, fun y => absurd y (by decide), fun y => absurd y hz⟩
  obtain ⟨d, hd, hde⟩ := hcd
  simp (disch := first | assumption | omega | (simp (disch := omega) only [fup_s, fup_k, fup_a, fup_r, frow_s, frow_r, frow_sk, frow_rk, fcpy_r, frng_r]; assumption) | (simp (disch := omega) only [fup_s, fup_k, fup_a, fup_r, frow_s, frow_r, frow_sk, frow_rk, fcpy_r, frng_r]; omega)) only [st_law_18, st_L_accepts, st_X7_accepts, ↓if_pos, ↓if_neg, if_pos, if_neg, ↓reduceIte, true_and, and_true, false_and, and_false, true_or, or_true, false_or, or_false, w32_id, Kv, Kn, fup_s, fup_a, fup_k, fup_fup, Int.reduceAdd, Int.reduceSub, Int.reduceMul, Int.reduceNeg, S_thrown, fup_s, fup_k, fup_a, fup_r, frow_s, frow_r, frow_sk, frow_rk, fcpy_r, frng_r, plcmp_eq, S_checkMachine, S_noMachine]
  refine C_accepted hP (stok_144 hW) hT hR hS hN hm1.1 hm1.2 hd hde ?_
  rcases hd with hd0 | hd0
  · subst hd0
    simp (disch := first | assumption | omega | (simp (disch := omega) only [fup_s, fup_k, fup_a, fup_r, frow_s, frow_r, frow_sk, frow_rk, fcpy_r, frng_r]; assumption) | (simp (disch := omega) only [fup_s, fup_k, fup_a, fup_r, frow_s, frow_r, frow_sk, frow_rk, fcpy_r, frng_r]; omega)) only [st_law_18, st_L_accepts, st_X7_accepts, st_X8_accepts, ↓if_pos, ↓if_neg, if_pos, if_neg, ↓reduceIte, true_and, and_true, false_and, and_false, true_or, or_true, false_or, or_false, w32_id, Kv, Kn, fup_s, fup_a, fup_k, fup_fup, Int.reduceAdd, Int.reduceSub, Int.reduceMul, Int.reduceNeg, S_thrown, fup_s, fup_k, fup_a, fup_r, frow_s, frow_r, frow_sk, frow_rk, fcpy_r, frng_r, plcmp_eq, S_checkMachine, S_noMachine]
    have e1 : ∀ v, fup (fup h 195 0 v) 178 0 0 179 = h 179 := fun v => by simp (disch := omega) only [fup_r]
    have e2 : ∀ v, fup (fup h 195 0 v) 178 0 0 180 = h 180 := fun v => by simp (disch := omega) only [fup_r]
    refine F_accepted (d := 0) hW (by rw [e1]; exact hT) (by rw [e1, e2]; exact hN) hm1.1 (by rw [e1]; exact hm1.2) (by decide) (by rw [e1, e2]; exact hde) ?_
    simp (disch := first | assumption | omega | (simp (disch := omega) only [fup_s, fup_k, fup_a, fup_r, frow_s, frow_r, frow_sk, frow_rk, fcpy_r, frng_r]; assumption) | (simp (disch := omega) only [fup_s, fup_k, fup_a, fup_r, frow_s, frow_r, frow_sk, frow_rk, fcpy_r, frng_r]; omega)) only [st_law_18, st_L_accepts, ↓if_pos, ↓if_neg, if_pos, if_neg, ↓reduceIte, true_and, and_true, false_and, and_false, true_or, or_true, false_or, or_false, w32_id, Kv, Kn, fup_s, fup_a, fup_k, fup_fup, Int.reduceAdd, Int.reduceSub, Int.reduceMul, Int.reduceNeg, S_thrown, fup_s, fup_k, fup_a, fup_r, frow_s, frow_r, frow_sk, frow_rk, fcpy_r, frng_r, plcmp_eq]
    all_goals ((try split) <;> exact H _ _ _ _ _ (inv_same hI ⟨fun a ha => by unfold Core at ha; simp (disch := omega) only [fup_r, frow_r], by simp (disch := omega) only [fup_k, fup_a, frow_rk], by simp (disch := omega) only [fup_k, fup_a, frow_rk], by simp (disch := omega) only [fup_k, fup_a, frow_rk]⟩) (by omega))
  · subst hd0
    simp (disch := first | assumption | omega | (simp (disch := omega) only [fup_s, fup_k, fup_a, fup_r, frow_s, frow_r, frow_sk, frow_rk, fcpy_r, frng_r]; assumption) | (simp (disch := omega) only [fup_s, fup_k, fup_a, fup_r, frow_s, frow_r, frow_sk, frow_rk, fcpy_r, frng_r]; omega)) only [st_law_18, st_L_accepts, st_X7_accepts, st_X8_accepts, ↓if_pos, ↓if_neg, if_pos, if_neg, ↓reduceIte, true_and, and_true, false_and, and_false, true_or, or_true, false_or, or_false, w32_id, Kv, Kn, fup_s, fup_a, fup_k, fup_fup, Int.reduceAdd, Int.reduceSub, Int.reduceMul, Int.reduceNeg, S_thrown, fup_s, fup_k, fup_a, fup_r, frow_s, frow_r, frow_sk, frow_rk, fcpy_r, frng_r, plcmp_eq, S_checkMachine, S_noMachine]
    have e1 : ∀ v, fup (fup h 195 0 v) 178 0 0 179 = h 179 := fun v => by simp (disch := omega) only [fup_r]
    have e2 : ∀ v, fup (fup h 195 0 v) 178 0 0 180 = h 180 := fun v => by simp (disch := omega) only [fup_r]
    refine F_accepted (d := 1) hW (by rw [e1]; exact hT) (by rw [e1, e2]; exact hN) hm1.1 (by rw [e1]; exact hm1.2) (by decide) (by rw [e1, e2]; exact hde) ?_
    simp (disch := first | assumption | omega | (simp (disch := omega) only [fup_s, fup_k, fup_a, fup_r, frow_s, frow_r, frow_sk, frow_rk, fcpy_r, frng_r]; assumption) | (simp (disch := omega) only [fup_s, fup_k, fup_a, fup_r, frow_s, frow_r, frow_sk, frow_rk, fcpy_r, frng_r]; omega)) only [st_law_18, st_L_accepts, ↓if_pos, ↓if_neg, if_pos, if_neg, ↓reduceIte, true_and, and_true, false_and, and_false, true_or, or_true, false_or, or_false, w32_id, Kv, Kn, fup_s, fup_a, fup_k, fup_fup, Int.reduceAdd, Int.reduceSub, Int.reduceMul, Int.reduceNeg, S_thrown, fup_s, fup_k, fup_a, fup_r, frow_s, frow_r, frow_sk, frow_rk, fcpy_r, frng_r, plcmp_eq]
    all_goals ((try split) <;> exact H _ _ _ _ _ (inv_same hI ⟨fun a ha => by unfold Core at ha; simp (disch := omega) only [fup_r, frow_r], by simp (disch := omega) only [fup_k, fup_a, frow_rk], by simp (disch := omega) only [fup_k, fup_a, frow_rk], by simp (disch := omega) only [fup_k, fup_a, frow_rk]⟩) (by omega))
