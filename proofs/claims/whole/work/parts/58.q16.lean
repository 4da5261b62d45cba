theorem Q_16 {i : Int} {l5 l6 : Option PV} {nx : Nat} {h r : PF} {s : Int → Int} {Q : PO → PY → Nat → PC → Prop} (hI : Inv h r) (hi : 0 ≤ i) (hi2 : i + 5 < s (-1)) (hi3 : s (-1) ≤ 4000) (H : ∀ (a b : Option PV) (nx' : Nat) (h' r' : PF), Inv h' r' → nx' ≤ nx + 1 → Wp 257 2079 [some (pR (-1000)), some (pR 1), some (pR 178), some (pR 195), some (pI i), a, b, none] [] LY nx' (h', r', s) Q) : Wp 257 1067 [some (pR (-1000)), some (pR 1), some (pR 178), some (pR 195), some (pI i), l5, l6, none] [] LY nx (h, r, s) Q := by
  obtain ⟨hW, hp0, hp1, hp2, hpk, hP, hS0, hk144, hT, hN, hR, hS, ep0, ep1, ep3, ep4, hT0, hT1⟩ := beg_of hI
  have k153 : kd LY 153 = (1, 80) := by decide +kernel
  have k152 : kd LY 152 = (1, 6) := by decide +kernel
  have k151 : kd LY 151 = (1, 60) := by decide +kernel
  obtain ⟨⟨hs0, hsk⟩, ⟨hsr0, hsp0, hsd0⟩, ⟨hsr1, hsp1, hsd1⟩, ⟨hsr2, hsp2, hsd2⟩, ⟨hsr3, hsp3, hsd3⟩, ⟨hsr4, hsp4, hsd4⟩, ⟨hsr5, hsp5, hsd5⟩, ⟨hsr6, hsp6, hsd6⟩, ⟨hsr7, hsp7, hsd7⟩, ⟨hsr12, hsp12, hsd12⟩⟩ := stok_144 hW
  by_cases hm : s (i + 1) < 0 ∨ h 179 1 ≤ s (i + 1)
  · simp (disch := first | assumption | omega | (simp (disch := omega) only [fup_s, fup_k, fup_a, fup_r, frow_s, frow_r, frow_sk, frow_rk, fcpy_r, frng_r]; assumption) | (simp (disch := omega) only [fup_s, fup_k, fup_a, fup_r, frow_s, frow_r, frow_sk, frow_rk, fcpy_r, frng_r]; omega)) only [st_law_16, st_L_coinsAfter, st_X7_coinsAfter, st_X8_coinsAfter, ↓if_pos, ↓if_neg, if_pos, if_neg, ↓reduceIte, true_and, and_true, false_and, and_false, true_or, or_true, false_or, or_false, w32_id, Kv, Kn, fup_s, fup_a, fup_k, fup_fup, Int.reduceAdd, Int.reduceSub, Int.reduceMul, Int.reduceNeg, S_thrown, fup_s, fup_k, fup_a, fup_r, frow_s, frow_r, frow_sk, frow_rk, fcpy_r, frng_r, plcmp_eq, S_checkMachine, S_noMachine, kh_L_coinsAfter_1, kx_X7_coinsAfter]
    all_goals ((try split) <;> exact H _ _ _ _ _ (inv_same hI ⟨fun a ha => by unfold Core at ha; simp (disch := omega) only [fup_r, frow_r], by simp (disch := omega) only [fup_k, fup_a, frow_rk], by simp (disch := omega) only [fup_k, fup_a, frow_rk], by simp (disch := omega) only [fup_k, fup_a, frow_rk]⟩) (by omega))
  have hm1 : 0 ≤ s (i + 1) ∧ s (i + 1) < h 179 1 := by omega
  by_cases hl : s (i + 2) < 1 ∨ 20 < s (i + 2)
  · simp (disch := first | assumption | omega | (simp (disch := omega) only [fup_s, fup_k, fup_a, fup_r, frow_s, frow_r, frow_sk, frow_rk, fcpy_r, frng_r]; assumption) | (simp (disch := omega) only [fup_s, fup_k, fup_a, fup_r, frow_s, frow_r, frow_sk, frow_rk, fcpy_r, frng_r]; omega)) only [st_law_16, st_L_coinsAfter, st_X7_coinsAfter, st_X8_coinsAfter, st_X8_noRounds, ↓if_pos, ↓if_neg, if_pos, if_neg, ↓reduceIte, true_and, and_true, false_and, and_false, true_or, or_true, false_or, or_false, w32_id, Kv, Kn, fup_s, fup_a, fup_k, fup_fup, Int.reduceAdd, Int.reduceSub, Int.reduceMul, Int.reduceNeg, S_thrown, fup_s, fup_k, fup_a, fup_r, frow_s, frow_r, frow_sk, frow_rk, fcpy_r, frng_r, plcmp_eq, S_checkMachine, S_noMachine, S_checkArgument, S_within, S_throwsIf, kh_L_coinsAfter_0, kx_X7_coinsAfter]
    all_goals ((try split) <;> exact H _ _ _ _ _ (inv_same hI ⟨fun a ha => by unfold Core at ha; simp (disch := omega) only [fup_r, frow_r], by simp (disch := omega) only [fup_k, fup_a, frow_rk], by simp (disch := omega) only [fup_k, fup_a, frow_rk], by simp (disch := omega) only [fup_k, fup_a, frow_rk]⟩) (by omega))
  have hp164 : 164 ≤ r 1 6 := by rcases hI.1.2.1 with z | z <;> omega
  have hSt := stok_154 hW
  have k154 := hSt.1.2
  have hSn := stok_144 hW
  have k156 : kd LY 156 = (1, 4) := by decide +kernel
  simp (disch := first | assumption | omega | (simp (disch := omega) only [fup_s, fup_k, fup_a, fup_r, frow_s, frow_r, frow_sk, frow_rk, fcpy_r, frng_r]; assumption) | (simp (disch := omega) only [fup_s, fup_k, fup_a, fup_r, frow_s, frow_r, frow_sk, frow_rk, fcpy_r, frng_r]; omega)) only [st_law_16, st_L_coinsAfter, st_X7_coinsAfter, ↓if_pos, ↓if_neg, if_pos, if_neg, ↓reduceIte, true_and, and_true, false_and, and_false, true_or, or_true, false_or, or_false, w32_id, Kv, Kn, fup_s, fup_a, fup_k, fup_fup, Int.reduceAdd, Int.reduceSub, Int.reduceMul, Int.reduceNeg, S_thrown, fup_s, fup_k, fup_a, fup_r, frow_s, frow_r, frow_sk, frow_rk, fcpy_r, frng_r, plcmp_eq, S_checkMachine, S_noMachine, S_checkArgument, S_copyFrom]
  have hcp : ∀ a, a < 154 ∨ 163 < a → cpS h 154 144 a = h a := fun a ha => cpS_r (by omega)
  refine C_playRounds hW hP hSt hT (pr_fr (fun a h1 h2 => hcp a (by omega)) hR) (sr_copy hT1.2 hN.1.2 hN.2.2.2.1.2 (by omega) hS) (by omega) (by omega) (by omega) hN (by omega) (by omega) (fun h' hf hS' => ?_)
  have hf2 : ∀ a, a < 9 ∨ 14 < a → a < 154 ∨ 163 < a → h' a = h a := fun a h1 h2 => by rw [hf a h1 h2, hcp a h2]
  have e179 := hf2 179 (by omega) (by omega)
  have e180 := hf2 180 (by omega) (by omega)
  have e178 := hf2 178 (by omega) (by omega)
  have hT' : TWf (h' 179) := by rw [e179]; exact hT
  have hN' : NWf (h' 179) (h' 180) := by rw [e179, e180]; exact hN
  have e1791 : h' 179 1 = h 179 1 := by rw [e179]
  have ec := (st_m hS' hm1.1 hm1.2).2.1
  simp only [Int.reduceAdd] at ec
  simp (disch := first | assumption | omega | (simp (disch := omega) only [fup_s, fup_k, fup_a, fup_r, frow_s, frow_r, frow_sk, frow_rk, fcpy_r, frng_r]; assumption) | (simp (disch := omega) only [fup_s, fup_k, fup_a, fup_r, frow_s, frow_r, frow_sk, frow_rk, fcpy_r, frng_r]; omega)) only [st_law_16, st_L_coinsAfter, st_X7_coinsAfter, st_X8_coinsAfter, st_X8_noRounds, ↓if_pos, ↓if_neg, if_pos, if_neg, ↓reduceIte, true_and, and_true, false_and, and_false, true_or, or_true, false_or, or_false, w32_id, Kv, Kn, fup_s, fup_a, fup_k, fup_fup, Int.reduceAdd, Int.reduceSub, Int.reduceMul, Int.reduceNeg, S_thrown, fup_s, fup_k, fup_a, fup_r, frow_s, frow_r, frow_sk, frow_rk, fcpy_r, frng_r, plcmp_eq, S_checkMachine, S_noMachine, S_within, S_throwsIf, e179, e180, ec, (S_puts (a := 180) (b := 185) (n1 := 195) (n2 := 195) (by decide) (by decide +kernel) (by decide) (by decide +kernel)), (S_puts (a := 185) (b := 180) (n1 := 195) (n2 := 195) (by decide) (by decide +kernel) (by decide) (by decide +kernel))]
  have e1 : fcpy (fup (fup h' 195 0 (gOf (gPlay (h 179) (s (i + 2)).toNat (h 180)) (s (i + 1)) 1)) 178 0 0) 180 0 185 0 195 179 = h 179 := by simp (disch := omega) only [fcpy_r, fup_r]; exact e179
  have e2 : fcpy (fup (fup h' 195 0 (gOf (gPlay (h 179) (s (i + 2)).toNat (h 180)) (s (i + 1)) 1)) 178 0 0) 180 0 185 0 195 180 = h 180 := by simp (disch := omega) only [fcpy_r, fup_r]; exact e180
  refine S_plays hW (by rw [e1]; exact hT) (by rw [e1, e2]; exact hN) (by omega) (by omega) (fun P => ?_)
  rw [e1, e2]
  simp (disch := first | assumption | omega | (simp (disch := omega) only [fup_s, fup_k, fup_a, fup_r, frow_s, frow_r, frow_sk, frow_rk, fcpy_r, frng_r]; assumption) | (simp (disch := omega) only [fup_s, fup_k, fup_a, fup_r, frow_s, frow_r, frow_sk, frow_rk, fcpy_r, frng_r]; omega)) only [st_law_16, st_L_coinsAfter, st_X8_coinsAfter, ↓if_pos, ↓if_neg, if_pos, if_neg, ↓reduceIte, true_and, and_true, false_and, and_false, true_or, or_true, false_or, or_false, w32_id, Kv, Kn, fup_s, fup_a, fup_k, fup_fup, Int.reduceAdd, Int.reduceSub, Int.reduceMul, Int.reduceNeg, S_thrown, fup_s, fup_k, fup_a, fup_r, frow_s, frow_r, frow_sk, frow_rk, fcpy_r, frng_r, plcmp_eq, S_of, e179, e180, fcpy_a, (S_puts (a := 180) (b := 185) (n1 := 195) (n2 := 195) (by decide) (by decide +kernel) (by decide) (by decide +kernel)), (S_puts (a := 185) (b := 180) (n1 := 195) (n2 := 195) (by decide) (by decide +kernel) (by decide) (by decide +kernel))]
  refine H _ _ _ _ _ (inv_same2 hI ⟨fun a ha hne => ?_, fun k h1 h2 => ?_, ?_, ?_, ?_⟩) (by omega)
  · unfold Core at ha
    simp (disch := omega) only [fcpy_r, frow_r, fup_r]
    exact hf2 a (by omega) (by omega)
  · rw [fcpy_in h1 (by omega), frow_rk (by omega), frow_rk (by omega), fcpy_in (by omega) (by omega), fup_a (by omega), fup_a (by omega), e180]
    simp only [Int.sub_zero, Int.zero_add]
  all_goals (simp (disch := omega) only [fcpy_a, frow_rk, fup_a, fup_k]; rw [e178])
