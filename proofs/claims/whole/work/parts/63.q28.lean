theorem gFresh_lo {T N : Int → Int} {m k : Int} (hm : 0 ≤ m ∧ m < 4) (hk : k < 64 ∨ 108 ≤ k) : gFresh T N m k = N k := by
  unfold gFresh
  have : ∀ n : Nat, n ≤ 6 → upto (gFreshF T m) n (up1 N (64 + 11 * m + 0) 0) k = N k := by
    intro n
    induction n with
    | zero => intro _; exact up1_k (by omega)
    | succ n ih =>
      intro hn
      show gFreshF T m n _ k = N k
      unfold gFreshF
      rw [up1_k (by omega)]
      exact ih (by omega)
  exact this 6 (by omega)
theorem fup_180 {f : PF} {k v : Int} : fup f 180 k v 180 = up1 (f 180) k v := by
  funext k'
  unfold fup up1
  by_cases h : k' = k
  · rw [if_pos ⟨rfl, h⟩, if_pos h]
  · rw [if_neg (fun z => h z.2), if_neg h]
theorem wn_of {T N N' : Int → Int} (hN : NWf T N) (hM : MWf T N') (e : ∀ k, (k = 2 ∨ k = 3 ∨ (4 ≤ k ∧ k < 64) ∨ k = 108) → N' k = N k) : NWf T N' := by
  obtain ⟨h1, h2, h3, h4, _⟩ := hN
  refine ⟨by rw [e 3 (by omega)]; exact h1, fun k a b => ?_, by rw [e 2 (by omega)]; exact h3, by rw [e 108 (by omega)]; exact h4, hM.1, hM.2.1, hM.2.2⟩
  rw [e 3 (by omega)] at b
  rw [e (4 + k) (by omega)]
  exact h2 k a b
theorem wm_give {T N : Int → Int} {m o c : Int} (hT : TWf T) (h : MWf T N) (hm : 0 ≤ m) (hm2 : m < T 1) (ho : 0 ≤ o) (ho2 : o < T 1) (hc : 0 ≤ c) (hc2 : c ≤ gOf N m 1) : MWf T (up1 (up1 N (64 + 11 * m + 1) (gOf N m 1 - c)) (64 + 11 * o + 1) (gOf (up1 N (64 + 11 * m + 1) (gOf N m 1 - c)) o 1 + c)) := by
  have hT1 := hT.2.1
  have ho1 := (h.1 o ho ho2).2.1
  have e1 : 0 ≤ gOf (up1 N (64 + 11 * m + 1) (gOf N m 1 - c)) o 1 := by
    by_cases hmo : o = m
    · rw [hmo, gOf_s]; omega
    · rw [gOf_k (by omega)]; exact ho1
  refine ⟨fun k hk hk2 => ?_, by rw [up1_k (by omega), up1_k (by omega)]; exact h.2.1, ?_⟩
  · have h1 := h.1 k hk hk2
    have e : ∀ w, 0 ≤ w → w < 11 → w ≠ 1 → gOf (up1 (up1 N (64 + 11 * m + 1) (gOf N m 1 - c)) (64 + 11 * o + 1) (gOf (up1 N (64 + 11 * m + 1) (gOf N m 1 - c)) o 1 + c)) k w = gOf N k w := fun w a b d => by rw [gOf_k (by omega), gOf_k (by omega)]
    rw [e 0 (by omega) (by omega) (by omega), e 2 (by omega) (by omega) (by omega)]
    refine ⟨h1.1, ?_, h1.2.2.1, fun t a b => ?_⟩
    · by_cases hko : k = o
      · rw [hko, gOf_s]; omega
      · rw [gOf_k (by omega)]
        by_cases hkm : k = m
        · rw [hkm, gOf_s]; omega
        · rw [gOf_k (by omega)]; exact h1.2.1
    · rw [e (5 + t) (by omega) (by omega) (by omega)]
      exact h1.2.2.2 t a b
  · rw [gTot_c ho, gTot_c hm, if_pos (by omega), if_pos (by omega)]
    have := h.2.2
    omega
theorem S_intoChestP {m c a : Int} {nx : Nat} {h r : PF} {s : Int → Int} {Q : PO → PY → Nat → PC → Prop} (hW : WFr r) (hT : TWf (h 179)) (hm : 0 ≤ m) (hm2 : m < 4) (hc : 0 ≤ c) (hc2 : c ≤ 10000) (ha : 0 ≤ a) (ha2 : a < 6) (h1 : -10000 ≤ gOf (h 180) m 1) (h2 : gOf (h 180) m 1 ≤ 10000) (h3 : 0 ≤ h 180 1) (h4 : h 180 1 ≤ 10000) : Wp 171 0 [some (pR 178), some (pI m), some (pI c), some (pI a)] [] LY nx (h, r, s) Q ↔ Q (Sum.inl none) LY nx (frow h 180 (gChest (h 180) m c a), r, s) := by
  have := S_intoChest (nx := nx) (h := h) (N := h 180) (r := r) (s := s) (Q := Q) hW hT hm hm2 hc hc2 ha ha2 h1 h2 h3 h4
  rwa [frow_self] at this
theorem Q_30 {i : Int} {l5 l6 : Option PV} {nx : Nat} {h r : PF} {s : Int → Int} {Q : PO → PY → Nat → PC → Prop} (hI : Inv h r) (hi : 0 ≤ i) (hi2 : i + 5 < s (-1)) (hi3 : s (-1) ≤ 4000) (H : ∀ (a b : Option PV) (nx' : Nat) (h' r' : PF), Inv h' r' → nx' ≤ nx + 1 → Wp 257 2079 [some (pR (-1000)), some (pR 1), some (pR 178), some (pR 195), some (pI i), a, b, none] [] LY nx' (h', r', s) Q) : Wp 257 1879 [some (pR (-1000)), some (pR 1), some (pR 178), some (pR 195), some (pI i), l5, l6, none] [] LY nx (h, r, s) Q := by
  obtain ⟨hW, hp0, hp1, hp2, hpk, hP, hS0, hk144, hT, hN, hR, hS, ep0, ep1, ep3, ep4, hT0, hT1⟩ := beg_of hI
  have k153 : kd LY 153 = (1, 80) := by decide +kernel
  have k152 : kd LY 152 = (1, 6) := by decide +kernel
  have k151 : kd LY 151 = (1, 60) := by decide +kernel
  obtain ⟨⟨hs0, hsk⟩, ⟨hsr0, hsp0, hsd0⟩, ⟨hsr1, hsp1, hsd1⟩, ⟨hsr2, hsp2, hsd2⟩, ⟨hsr3, hsp3, hsd3⟩, ⟨hsr4, hsp4, hsd4⟩, ⟨hsr5, hsp5, hsd5⟩, ⟨hsr6, hsp6, hsd6⟩, ⟨hsr7, hsp7, hsd7⟩, ⟨hsr12, hsp12, hsd12⟩⟩ := stok_144 hW
  have he := hI.2.2.2.2.2.1.2.2.1
  have hu0 := hI.2.2.2.2.2.1.1
  have hu1 := hI.2.2.2.2.2.1.2.1
  have hu : 0 ≤ h 21 0 ∧ h 21 0 ≤ 10 := by omega
  have hS0 := stok_144 hW
  have hp164 : 164 ≤ r 1 6 := by rcases hI.1.2.1 with z | z <;> omega
  have e8 := hS.1.1
  have hN3 := hN.1
  have hkr : ∀ a, (a < 21 ∨ a = 22 ∨ a = 23 ∨ 123 < a) → kepC h a = h a := fun a ha => kepC_r he ha
  have hRk : PlanRel (kepC h) (r 1 6) (h 179) := pr_fr (fun a h1 h2 => hkr a (by omega)) hR
  have hSk : StRel (kepC h) 144 (h 179) (h 180) := sr_fr (fun a h1 h2 => hkr a (by omega)) hS
  by_cases hm : s (i + 1) < 0 ∨ h 179 1 ≤ s (i + 1)
  · simp (disch := first | assumption | omega | (simp (disch := omega) only [fup_s, fup_k, fup_a, fup_r, frow_s, frow_r, frow_sk, frow_rk, fcpy_r, frng_r]; assumption) | (simp (disch := omega) only [fup_s, fup_k, fup_a, fup_r, frow_s, frow_r, frow_sk, frow_rk, fcpy_r, frng_r]; omega) | (simp (disch := omega) only [fup_s, fup_k, fup_a, fup_r, frow_s, frow_r, frow_sk, frow_rk, fcpy_r, frng_r, hkr]; assumption) | (simp (disch := omega) only [fup_s, fup_k, fup_a, fup_r, frow_s, frow_r, frow_sk, frow_rk, fcpy_r, frng_r, hkr]; omega)) only [st_law_30, st_L_setWeight, st_X7_setWeight, st_X8_setWeight, ↓if_pos, ↓if_neg, if_pos, if_neg, ↓reduceIte, true_and, and_true, false_and, and_false, true_or, or_true, false_or, or_false, w32_id, Kv, Kn, fup_s, fup_a, fup_k, fup_fup, Int.reduceAdd, Int.reduceSub, Int.reduceMul, Int.reduceNeg, S_thrown, fup_s, fup_k, fup_a, fup_r, frow_s, frow_r, frow_sk, frow_rk, fcpy_r, frng_r, plcmp_eq, S_checkMachine, S_noMachine, S_checkArgument, S_within, S_throwsIf, kh_L_setWeight_0, kh_L_setWeight_1, kx_X7_setWeight, C_keep, hkr]
    all_goals ((try split) <;> exact H _ _ _ _ _ (inv_same hI ⟨fun a ha => by unfold Core at ha; simp (disch := omega) only [fup_r, frow_r], by simp (disch := omega) only [fup_k, fup_a, frow_rk], by simp (disch := omega) only [fup_k, fup_a, frow_rk], by simp (disch := omega) only [fup_k, fup_a, frow_rk]⟩) (by omega))
  have hm1 : 0 ≤ s (i + 1) ∧ s (i + 1) < h 179 1 := by omega
  by_cases hl : s (i + 2) < 1 ∨ 9 < s (i + 2)
  · simp (disch := first | assumption | omega | (simp (disch := omega) only [fup_s, fup_k, fup_a, fup_r, frow_s, frow_r, frow_sk, frow_rk, fcpy_r, frng_r]; assumption) | (simp (disch := omega) only [fup_s, fup_k, fup_a, fup_r, frow_s, frow_r, frow_sk, frow_rk, fcpy_r, frng_r]; omega) | (simp (disch := omega) only [fup_s, fup_k, fup_a, fup_r, frow_s, frow_r, frow_sk, frow_rk, fcpy_r, frng_r, hkr]; assumption) | (simp (disch := omega) only [fup_s, fup_k, fup_a, fup_r, frow_s, frow_r, frow_sk, frow_rk, fcpy_r, frng_r, hkr]; omega)) only [st_law_30, st_L_setWeight, st_X7_setWeight, st_X8_setWeight, ↓if_pos, ↓if_neg, if_pos, if_neg, ↓reduceIte, true_and, and_true, false_and, and_false, true_or, or_true, false_or, or_false, w32_id, Kv, Kn, fup_s, fup_a, fup_k, fup_fup, Int.reduceAdd, Int.reduceSub, Int.reduceMul, Int.reduceNeg, S_thrown, fup_s, fup_k, fup_a, fup_r, frow_s, frow_r, frow_sk, frow_rk, fcpy_r, frng_r, plcmp_eq, S_checkMachine, S_noMachine, S_checkArgument, S_within, S_throwsIf, kh_L_setWeight_0, kh_L_setWeight_1, kx_X7_setWeight, C_keep, hkr]
    all_goals ((try split) <;> exact H _ _ _ _ _ (inv_same hI ⟨fun a ha => by unfold Core at ha; simp (disch := omega) only [fup_r, frow_r], by simp (disch := omega) only [fup_k, fup_a, frow_rk], by simp (disch := omega) only [fup_k, fup_a, frow_rk], by simp (disch := omega) only [fup_k, fup_a, frow_rk]⟩) (by omega))
  have ew := (st_m hS hm1.1 hm1.2).2.2.1
  have hS1 := sr_m2 (v := s (i + 2)) hT1.2 hN3.2 hm1.1 (by omega) hSk
  simp only [Int.reduceAdd] at ew hS1
  simp (disch := first | assumption | omega | (simp (disch := omega) only [fup_s, fup_k, fup_a, fup_r, frow_s, frow_r, frow_sk, frow_rk, fcpy_r, frng_r]; assumption) | (simp (disch := omega) only [fup_s, fup_k, fup_a, fup_r, frow_s, frow_r, frow_sk, frow_rk, fcpy_r, frng_r]; omega) | (simp (disch := omega) only [fup_s, fup_k, fup_a, fup_r, frow_s, frow_r, frow_sk, frow_rk, fcpy_r, frng_r, hkr]; assumption) | (simp (disch := omega) only [fup_s, fup_k, fup_a, fup_r, frow_s, frow_r, frow_sk, frow_rk, fcpy_r, frng_r, hkr]; omega)) only [st_law_30, st_L_setWeight, st_X7_setWeight, st_X8_setWeight, ↓if_pos, ↓if_neg, if_pos, if_neg, ↓reduceIte, true_and, and_true, false_and, and_false, true_or, or_true, false_or, or_false, w32_id, Kv, Kn, fup_s, fup_a, fup_k, fup_fup, Int.reduceAdd, Int.reduceSub, Int.reduceMul, Int.reduceNeg, S_thrown, fup_s, fup_k, fup_a, fup_r, frow_s, frow_r, frow_sk, frow_rk, fcpy_r, frng_r, plcmp_eq, S_checkMachine, S_noMachine, S_checkArgument, S_within, S_throwsIf, kh_L_setWeight_0, kh_L_setWeight_1, kx_X7_setWeight, C_keep, hkr, ew]
  refine S_keeps hW (by simp (disch := omega) only [fup_s, fup_k, fup_a, fup_r, frow_s, frow_r, frow_sk, frow_rk, fcpy_r, frng_r, hkr]; exact hu1) (fun G hG => ?_)
  simp (disch := omega) only [fup_s, fup_k, fup_a, fup_r, frow_s, frow_r, frow_sk, frow_rk, fcpy_r, frng_r, hkr] at hG ⊢
  simp (disch := first | assumption | omega | (simp (disch := omega) only [fup_s, fup_k, fup_a, fup_r, frow_s, frow_r, frow_sk, frow_rk, fcpy_r, frng_r]; assumption) | (simp (disch := omega) only [fup_s, fup_k, fup_a, fup_r, frow_s, frow_r, frow_sk, frow_rk, fcpy_r, frng_r]; omega) | (simp (disch := omega) only [fup_s, fup_k, fup_a, fup_r, frow_s, frow_r, frow_sk, frow_rk, fcpy_r, frng_r, hkr]; assumption) | (simp (disch := omega) only [fup_s, fup_k, fup_a, fup_r, frow_s, frow_r, frow_sk, frow_rk, fcpy_r, frng_r, hkr]; omega)) only [st_law_30, st_X8_setWeight, st_L_setWeight, ↓if_pos, ↓if_neg, if_pos, if_neg, ↓reduceIte, true_and, and_true, false_and, and_false, true_or, or_true, false_or, or_false, w32_id, Kv, Kn, fup_s, fup_a, fup_k, fup_fup, Int.reduceAdd, Int.reduceSub, Int.reduceMul, Int.reduceNeg, S_thrown, fup_s, fup_k, fup_a, fup_r, frow_s, frow_r, frow_sk, frow_rk, fcpy_r, frng_r, plcmp_eq, S_checkMachine, S_noMachine, S_checkArgument, S_within, S_throwsIf, kh_L_setWeight_0, kh_L_setWeight_1, kx_X7_setWeight, C_keep, hkr, S_of, S_sets]
  refine H _ _ _ _ _ (inv_kept (h1 := fup (kepC h) 147 (s (i + 1)) (s (i + 2))) hI (fun a g1 g2 => by simp (disch := omega) only [fup_s, fup_k, fup_a, fup_r, frow_s, frow_r, frow_sk, frow_rk, fcpy_r, frng_r]) hS1 (fun a g1 g2 g3 g4 g5 => by simp (disch := omega) only [fup_s, fup_k, fup_a, fup_r, frow_s, frow_r, frow_sk, frow_rk, fcpy_r, frng_r]) (by simp (disch := omega) only [fup_s, fup_k, fup_a, fup_r, frow_s, frow_r, frow_sk, frow_rk, fcpy_r, frng_r, hkr]) (by simp (disch := omega) only [fup_s, fup_k, fup_a, fup_r, frow_s, frow_r, frow_sk, frow_rk, fcpy_r, frng_r, hkr]) (by simp (disch := omega) only [fup_s, fup_k, fup_a, fup_r, frow_s, frow_r, frow_sk, frow_rk, fcpy_r, frng_r, hkr]) (fun k h1 h2 i h3 h4 => by simp (disch := omega) only [fup_s, fup_k, fup_a, fup_r, frow_s, frow_r, frow_sk, frow_rk, fcpy_r, frng_r]; exact hG k h1 h2 i h3 h4) (by simp (disch := omega) only [fup_s, fup_k, fup_a, fup_r, frow_s, frow_r, frow_sk, frow_rk, fcpy_r, frng_r, fup_180, hkr]) (wn_of hN (wm_up hT (wn_wm hN) hm1.1 (by omega) (by omega) (by omega) (fun z => by omega) (fun z => ⟨by omega, by omega⟩) (fun z => by omega)) (fun k hk => up1_k (by omega)))) (by omega)
theorem Q_29 {i : Int} {l5 l6 : Option PV} {nx : Nat} {h r : PF} {s : Int → Int} {Q : PO → PY → Nat → PC → Prop} (hI : Inv h r) (hi : 0 ≤ i) (hi2 : i + 5 < s (-1)) (hi3 : s (-1) ≤ 4000) (H : ∀ (a b : Option PV) (nx' : Nat) (h' r' : PF), Inv h' r' → nx' ≤ nx + 1 → Wp 257 2079 [some (pR (-1000)), some (pR 1), some (pR 178), some (pR 195), some (pI i), a, b, none] [] LY nx' (h', r', s) Q) : Wp 257 1799 [some (pR (-1000)), some (pR 1), some (pR 178), some (pR 195), some (pI i), l5, l6, none] [] LY nx (h, r, s) Q := by
  obtain ⟨hW, hp0, hp1, hp2, hpk, hP, hS0, hk144, hT, hN, hR, hS, ep0, ep1, ep3, ep4, hT0, hT1⟩ := beg_of hI
  have k153 : kd LY 153 = (1, 80) := by decide +kernel
  have k152 : kd LY 152 = (1, 6) := by decide +kernel
  have k151 : kd LY 151 = (1, 60) := by decide +kernel
  obtain ⟨⟨hs0, hsk⟩, ⟨hsr0, hsp0, hsd0⟩, ⟨hsr1, hsp1, hsd1⟩, ⟨hsr2, hsp2, hsd2⟩, ⟨hsr3, hsp3, hsd3⟩, ⟨hsr4, hsp4, hsd4⟩, ⟨hsr5, hsp5, hsd5⟩, ⟨hsr6, hsp6, hsd6⟩, ⟨hsr7, hsp7, hsd7⟩, ⟨hsr12, hsp12, hsd12⟩⟩ := stok_144 hW
  have he := hI.2.2.2.2.2.1.2.2.1
  have hu0 := hI.2.2.2.2.2.1.1
  have hu1 := hI.2.2.2.2.2.1.2.1
  have hu : 0 ≤ h 21 0 ∧ h 21 0 ≤ 10 := by omega
  have hS0 := stok_144 hW
  have hp164 : 164 ≤ r 1 6 := by rcases hI.1.2.1 with z | z <;> omega
  have e8 := hS.1.1
  have hN3 := hN.1
  have hkr : ∀ a, (a < 21 ∨ a = 22 ∨ a = 23 ∨ 123 < a) → kepC h a = h a := fun a ha => kepC_r he ha
  have hRk : PlanRel (kepC h) (r 1 6) (h 179) := pr_fr (fun a h1 h2 => hkr a (by omega)) hR
  have hSk : StRel (kepC h) 144 (h 179) (h 180) := sr_fr (fun a h1 h2 => hkr a (by omega)) hS
  by_cases hm : s (i + 1) < 0 ∨ h 179 1 ≤ s (i + 1)
  · simp (disch := first | assumption | omega | (simp (disch := omega) only [fup_s, fup_k, fup_a, fup_r, frow_s, frow_r, frow_sk, frow_rk, fcpy_r, frng_r]; assumption) | (simp (disch := omega) only [fup_s, fup_k, fup_a, fup_r, frow_s, frow_r, frow_sk, frow_rk, fcpy_r, frng_r]; omega) | (simp (disch := omega) only [fup_s, fup_k, fup_a, fup_r, frow_s, frow_r, frow_sk, frow_rk, fcpy_r, frng_r, hkr]; assumption) | (simp (disch := omega) only [fup_s, fup_k, fup_a, fup_r, frow_s, frow_r, frow_sk, frow_rk, fcpy_r, frng_r, hkr]; omega)) only [st_law_29, st_L_give, st_X7_give, st_X8_give_0, st_X8_give_1, ↓if_pos, ↓if_neg, if_pos, if_neg, ↓reduceIte, true_and, and_true, false_and, and_false, true_or, or_true, false_or, or_false, w32_id, Kv, Kn, fup_s, fup_a, fup_k, fup_fup, Int.reduceAdd, Int.reduceSub, Int.reduceMul, Int.reduceNeg, S_thrown, fup_s, fup_k, fup_a, fup_r, frow_s, frow_r, frow_sk, frow_rk, fcpy_r, frng_r, plcmp_eq, S_checkMachine, S_noMachine, S_no, S_checkArgument, S_checkPossible, S_within, S_throwsIf, S_of, kh_L_give_0, kh_L_give_1, kh_L_give_2, kx_X7_give, C_keep, hkr]
    all_goals ((try split) <;> exact H _ _ _ _ _ (inv_same hI ⟨fun a ha => by unfold Core at ha; simp (disch := omega) only [fup_r, frow_r], by simp (disch := omega) only [fup_k, fup_a, frow_rk], by simp (disch := omega) only [fup_k, fup_a, frow_rk], by simp (disch := omega) only [fup_k, fup_a, frow_rk]⟩) (by omega))
  have hm1 : 0 ≤ s (i + 1) ∧ s (i + 1) < h 179 1 := by omega
  by_cases ho : s (i + 2) < 0 ∨ h 179 1 ≤ s (i + 2)
  · simp (disch := first | assumption | omega | (simp (disch := omega) only [fup_s, fup_k, fup_a, fup_r, frow_s, frow_r, frow_sk, frow_rk, fcpy_r, frng_r]; assumption) | (simp (disch := omega) only [fup_s, fup_k, fup_a, fup_r, frow_s, frow_r, frow_sk, frow_rk, fcpy_r, frng_r]; omega) | (simp (disch := omega) only [fup_s, fup_k, fup_a, fup_r, frow_s, frow_r, frow_sk, frow_rk, fcpy_r, frng_r, hkr]; assumption) | (simp (disch := omega) only [fup_s, fup_k, fup_a, fup_r, frow_s, frow_r, frow_sk, frow_rk, fcpy_r, frng_r, hkr]; omega)) only [st_law_29, st_L_give, st_X7_give, st_X8_give_0, st_X8_give_1, ↓if_pos, ↓if_neg, if_pos, if_neg, ↓reduceIte, true_and, and_true, false_and, and_false, true_or, or_true, false_or, or_false, w32_id, Kv, Kn, fup_s, fup_a, fup_k, fup_fup, Int.reduceAdd, Int.reduceSub, Int.reduceMul, Int.reduceNeg, S_thrown, fup_s, fup_k, fup_a, fup_r, frow_s, frow_r, frow_sk, frow_rk, fcpy_r, frng_r, plcmp_eq, S_checkMachine, S_noMachine, S_no, S_checkArgument, S_checkPossible, S_within, S_throwsIf, S_of, kh_L_give_0, kh_L_give_1, kh_L_give_2, kx_X7_give, C_keep, hkr]
    all_goals ((try split) <;> exact H _ _ _ _ _ (inv_same hI ⟨fun a ha => by unfold Core at ha; simp (disch := omega) only [fup_r, frow_r], by simp (disch := omega) only [fup_k, fup_a, frow_rk], by simp (disch := omega) only [fup_k, fup_a, frow_rk], by simp (disch := omega) only [fup_k, fup_a, frow_rk]⟩) (by omega))
  have ho1 : 0 ≤ s (i + 2) ∧ s (i + 2) < h 179 1 := by omega
  have em := (st_m hS hm1.1 hm1.2).2.1
  have eo := (st_m hS ho1.1 ho1.2).2.1
  simp only [Int.reduceAdd] at em eo
  by_cases hl : s (i + 3) < 0 ∨ 999 < s (i + 3)
  · simp (disch := first | assumption | omega | (simp (disch := omega) only [fup_s, fup_k, fup_a, fup_r, frow_s, frow_r, frow_sk, frow_rk, fcpy_r, frng_r]; assumption) | (simp (disch := omega) only [fup_s, fup_k, fup_a, fup_r, frow_s, frow_r, frow_sk, frow_rk, fcpy_r, frng_r]; omega) | (simp (disch := omega) only [fup_s, fup_k, fup_a, fup_r, frow_s, frow_r, frow_sk, frow_rk, fcpy_r, frng_r, hkr]; assumption) | (simp (disch := omega) only [fup_s, fup_k, fup_a, fup_r, frow_s, frow_r, frow_sk, frow_rk, fcpy_r, frng_r, hkr]; omega)) only [st_law_29, st_L_give, st_X7_give, st_X8_give_0, st_X8_give_1, ↓if_pos, ↓if_neg, if_pos, if_neg, ↓reduceIte, true_and, and_true, false_and, and_false, true_or, or_true, false_or, or_false, w32_id, Kv, Kn, fup_s, fup_a, fup_k, fup_fup, Int.reduceAdd, Int.reduceSub, Int.reduceMul, Int.reduceNeg, S_thrown, fup_s, fup_k, fup_a, fup_r, frow_s, frow_r, frow_sk, frow_rk, fcpy_r, frng_r, plcmp_eq, S_checkMachine, S_noMachine, S_no, S_checkArgument, S_checkPossible, S_within, S_throwsIf, S_of, kh_L_give_0, kh_L_give_1, kh_L_give_2, kx_X7_give, C_keep, hkr]
    all_goals ((try split) <;> exact H _ _ _ _ _ (inv_same hI ⟨fun a ha => by unfold Core at ha; simp (disch := omega) only [fup_r, frow_r], by simp (disch := omega) only [fup_k, fup_a, frow_rk], by simp (disch := omega) only [fup_k, fup_a, frow_rk], by simp (disch := omega) only [fup_k, fup_a, frow_rk]⟩) (by omega))
  by_cases hc : gOf (h 180) (s (i + 1)) 1 < s (i + 3)
  · simp (disch := first | assumption | omega | (simp (disch := omega) only [fup_s, fup_k, fup_a, fup_r, frow_s, frow_r, frow_sk, frow_rk, fcpy_r, frng_r]; assumption) | (simp (disch := omega) only [fup_s, fup_k, fup_a, fup_r, frow_s, frow_r, frow_sk, frow_rk, fcpy_r, frng_r]; omega) | (simp (disch := omega) only [fup_s, fup_k, fup_a, fup_r, frow_s, frow_r, frow_sk, frow_rk, fcpy_r, frng_r, hkr]; assumption) | (simp (disch := omega) only [fup_s, fup_k, fup_a, fup_r, frow_s, frow_r, frow_sk, frow_rk, fcpy_r, frng_r, hkr]; omega)) only [st_law_29, st_L_give, st_X7_give, st_X8_give_0, st_X8_give_1, ↓if_pos, ↓if_neg, if_pos, if_neg, ↓reduceIte, true_and, and_true, false_and, and_false, true_or, or_true, false_or, or_false, w32_id, Kv, Kn, fup_s, fup_a, fup_k, fup_fup, Int.reduceAdd, Int.reduceSub, Int.reduceMul, Int.reduceNeg, S_thrown, fup_s, fup_k, fup_a, fup_r, frow_s, frow_r, frow_sk, frow_rk, fcpy_r, frng_r, plcmp_eq, S_checkMachine, S_noMachine, S_no, S_checkArgument, S_checkPossible, S_within, S_throwsIf, S_of, kh_L_give_0, kh_L_give_1, kh_L_give_2, kx_X7_give, C_keep, hkr, em]
    all_goals ((try split) <;> exact H _ _ _ _ _ (inv_same hI ⟨fun a ha => by unfold Core at ha; simp (disch := omega) only [fup_r, frow_r], by simp (disch := omega) only [fup_k, fup_a, frow_rk], by simp (disch := omega) only [fup_k, fup_a, frow_rk], by simp (disch := omega) only [fup_k, fup_a, frow_rk]⟩) (by omega))
  have b1 := wm_coins (wn_wm hN) hm1.1 hm1.2
  have b2 := wm_coins (wn_wm hN) ho1.1 ho1.2
  have b3 := ((wn_wm hN).1 _ hm1.1 hm1.2).2.1
  have b4 := ((wn_wm hN).1 _ ho1.1 ho1.2).2.1
  have hNW := wn_of hN (wm_give (c := s (i + 3)) hT (wn_wm hN) hm1.1 hm1.2 ho1.1 ho1.2 (by omega) (by omega)) (fun k hk => by rw [up1_k (by omega), up1_k (by omega)])
  have hS2 := sr_m1 (v := gOf (up1 (h 180) (64 + 11 * s (i + 1) + 1) (gOf (h 180) (s (i + 1)) 1 - s (i + 3))) (s (i + 2)) 1 + s (i + 3)) hT1.2 (by rw [up1_k (by omega)]; exact hN3.2) ho1.1 (by omega) (sr_m1 (v := gOf (h 180) (s (i + 1)) 1 - s (i + 3)) hT1.2 hN3.2 hm1.1 (by omega) hSk)
  simp only [Int.reduceAdd] at hS2
  by_cases hmo : s (i + 2) = s (i + 1)
  · have e1 : gOf (up1 (h 180) (64 + 11 * s (i + 1) + 1) (gOf (h 180) (s (i + 1)) 1 - s (i + 3))) (s (i + 2)) 1 = gOf (h 180) (s (i + 1)) 1 - s (i + 3) := by rw [hmo, gOf_s]
    rw [e1] at hNW hS2
    rw [hmo] at hNW hS2
    rw [up1_up1] at hNW
    rw [fup_fup, up1_up1] at hS2
    simp (disch := first | assumption | omega | (simp (disch := omega) only [fup_s, fup_k, fup_a, fup_r, frow_s, frow_r, frow_sk, frow_rk, fcpy_r, frng_r]; assumption) | (simp (disch := omega) only [fup_s, fup_k, fup_a, fup_r, frow_s, frow_r, frow_sk, frow_rk, fcpy_r, frng_r]; omega) | (simp (disch := omega) only [fup_s, fup_k, fup_a, fup_r, frow_s, frow_r, frow_sk, frow_rk, fcpy_r, frng_r, hkr]; assumption) | (simp (disch := omega) only [fup_s, fup_k, fup_a, fup_r, frow_s, frow_r, frow_sk, frow_rk, fcpy_r, frng_r, hkr]; omega)) only [st_law_29, st_L_give, st_X7_give, st_X8_give_0, st_X8_give_1, ↓if_pos, ↓if_neg, if_pos, if_neg, ↓reduceIte, true_and, and_true, false_and, and_false, true_or, or_true, false_or, or_false, w32_id, Kv, Kn, fup_s, fup_a, fup_k, fup_fup, Int.reduceAdd, Int.reduceSub, Int.reduceMul, Int.reduceNeg, S_thrown, fup_s, fup_k, fup_a, fup_r, frow_s, frow_r, frow_sk, frow_rk, fcpy_r, frng_r, plcmp_eq, S_checkMachine, S_noMachine, S_no, S_checkArgument, S_checkPossible, S_within, S_throwsIf, S_of, kh_L_give_0, kh_L_give_1, kh_L_give_2, kx_X7_give, C_keep, hkr, em, hmo]
    refine S_keeps hW (by simp (disch := omega) only [fup_s, fup_k, fup_a, fup_r, frow_s, frow_r, frow_sk, frow_rk, fcpy_r, frng_r, hkr]; exact hu1) (fun G hG => ?_)
    simp (disch := omega) only [fup_s, fup_k, fup_a, fup_r, frow_s, frow_r, frow_sk, frow_rk, fcpy_r, frng_r, hkr] at hG ⊢
    simp (disch := first | assumption | omega | (simp (disch := omega) only [fup_s, fup_k, fup_a, fup_r, frow_s, frow_r, frow_sk, frow_rk, fcpy_r, frng_r]; assumption) | (simp (disch := omega) only [fup_s, fup_k, fup_a, fup_r, frow_s, frow_r, frow_sk, frow_rk, fcpy_r, frng_r]; omega) | (simp (disch := omega) only [fup_s, fup_k, fup_a, fup_r, frow_s, frow_r, frow_sk, frow_rk, fcpy_r, frng_r, hkr]; assumption) | (simp (disch := omega) only [fup_s, fup_k, fup_a, fup_r, frow_s, frow_r, frow_sk, frow_rk, fcpy_r, frng_r, hkr]; omega)) only [st_law_29, st_X8_give_0, st_X8_give_1, st_L_give, ↓if_pos, ↓if_neg, if_pos, if_neg, ↓reduceIte, true_and, and_true, false_and, and_false, true_or, or_true, false_or, or_false, w32_id, Kv, Kn, fup_s, fup_a, fup_k, fup_fup, Int.reduceAdd, Int.reduceSub, Int.reduceMul, Int.reduceNeg, S_thrown, fup_s, fup_k, fup_a, fup_r, frow_s, frow_r, frow_sk, frow_rk, fcpy_r, frng_r, plcmp_eq, S_checkMachine, S_noMachine, S_no, S_checkArgument, S_checkPossible, S_within, S_throwsIf, S_of, kh_L_give_0, kh_L_give_1, kh_L_give_2, kx_X7_give, C_keep, hkr, S_sets, hmo, fup_180, gOf_s]
    refine H _ _ _ _ _ (inv_kept (h1 := fup (kepC h) 146 (s (i + 1)) (gOf (h 180) (s (i + 1)) 1 - s (i + 3) + s (i + 3))) hI (fun a g1 g2 => by simp (disch := omega) only [fup_s, fup_k, fup_a, fup_r, frow_s, frow_r, frow_sk, frow_rk, fcpy_r, frng_r]) hS2 (fun a g1 g2 g3 g4 g5 => by simp (disch := omega) only [fup_s, fup_k, fup_a, fup_r, frow_s, frow_r, frow_sk, frow_rk, fcpy_r, frng_r]) (by simp (disch := omega) only [fup_s, fup_k, fup_a, fup_r, frow_s, frow_r, frow_sk, frow_rk, fcpy_r, frng_r, hkr]) (by simp (disch := omega) only [fup_s, fup_k, fup_a, fup_r, frow_s, frow_r, frow_sk, frow_rk, fcpy_r, frng_r, hkr]) (by simp (disch := omega) only [fup_s, fup_k, fup_a, fup_r, frow_s, frow_r, frow_sk, frow_rk, fcpy_r, frng_r, hkr]) (fun k h1 h2 i h3 h4 => by simp (disch := omega) only [fup_s, fup_k, fup_a, fup_r, frow_s, frow_r, frow_sk, frow_rk, fcpy_r, frng_r]; exact hG k h1 h2 i h3 h4) (by simp (disch := omega) only [fup_s, fup_k, fup_a, fup_r, frow_s, frow_r, frow_sk, frow_rk, fcpy_r, frng_r, fup_180, hkr]) hNW) (by omega)
  · have e1 : gOf (up1 (h 180) (64 + 11 * s (i + 1) + 1) (gOf (h 180) (s (i + 1)) 1 - s (i + 3))) (s (i + 2)) 1 = gOf (h 180) (s (i + 2)) 1 := gOf_k (by omega)
    rw [e1] at hNW hS2
    simp (disch := first | assumption | omega | (simp (disch := omega) only [fup_s, fup_k, fup_a, fup_r, frow_s, frow_r, frow_sk, frow_rk, fcpy_r, frng_r]; assumption) | (simp (disch := omega) only [fup_s, fup_k, fup_a, fup_r, frow_s, frow_r, frow_sk, frow_rk, fcpy_r, frng_r]; omega) | (simp (disch := omega) only [fup_s, fup_k, fup_a, fup_r, frow_s, frow_r, frow_sk, frow_rk, fcpy_r, frng_r, hkr]; assumption) | (simp (disch := omega) only [fup_s, fup_k, fup_a, fup_r, frow_s, frow_r, frow_sk, frow_rk, fcpy_r, frng_r, hkr]; omega)) only [st_law_29, st_L_give, st_X7_give, st_X8_give_0, st_X8_give_1, ↓if_pos, ↓if_neg, if_pos, if_neg, ↓reduceIte, true_and, and_true, false_and, and_false, true_or, or_true, false_or, or_false, w32_id, Kv, Kn, fup_s, fup_a, fup_k, fup_fup, Int.reduceAdd, Int.reduceSub, Int.reduceMul, Int.reduceNeg, S_thrown, fup_s, fup_k, fup_a, fup_r, frow_s, frow_r, frow_sk, frow_rk, fcpy_r, frng_r, plcmp_eq, S_checkMachine, S_noMachine, S_no, S_checkArgument, S_checkPossible, S_within, S_throwsIf, S_of, kh_L_give_0, kh_L_give_1, kh_L_give_2, kx_X7_give, C_keep, hkr, em, eo]
    refine S_keeps hW (by simp (disch := omega) only [fup_s, fup_k, fup_a, fup_r, frow_s, frow_r, frow_sk, frow_rk, fcpy_r, frng_r, hkr]; exact hu1) (fun G hG => ?_)
    simp (disch := omega) only [fup_s, fup_k, fup_a, fup_r, frow_s, frow_r, frow_sk, frow_rk, fcpy_r, frng_r, hkr] at hG ⊢
    simp (disch := first | assumption | omega | (simp (disch := omega) only [fup_s, fup_k, fup_a, fup_r, frow_s, frow_r, frow_sk, frow_rk, fcpy_r, frng_r]; assumption) | (simp (disch := omega) only [fup_s, fup_k, fup_a, fup_r, frow_s, frow_r, frow_sk, frow_rk, fcpy_r, frng_r]; omega) | (simp (disch := omega) only [fup_s, fup_k, fup_a, fup_r, frow_s, frow_r, frow_sk, frow_rk, fcpy_r, frng_r, hkr]; assumption) | (simp (disch := omega) only [fup_s, fup_k, fup_a, fup_r, frow_s, frow_r, frow_sk, frow_rk, fcpy_r, frng_r, hkr]; omega)) only [st_law_29, st_X8_give_0, st_X8_give_1, st_L_give, ↓if_pos, ↓if_neg, if_pos, if_neg, ↓reduceIte, true_and, and_true, false_and, and_false, true_or, or_true, false_or, or_false, w32_id, Kv, Kn, fup_s, fup_a, fup_k, fup_fup, Int.reduceAdd, Int.reduceSub, Int.reduceMul, Int.reduceNeg, S_thrown, fup_s, fup_k, fup_a, fup_r, frow_s, frow_r, frow_sk, frow_rk, fcpy_r, frng_r, plcmp_eq, S_checkMachine, S_noMachine, S_no, S_checkArgument, S_checkPossible, S_within, S_throwsIf, S_of, kh_L_give_0, kh_L_give_1, kh_L_give_2, kx_X7_give, C_keep, hkr, S_sets, fup_180, gOf_s, gOf_k]
    refine H _ _ _ _ _ (inv_kept (h1 := fup (fup (kepC h) 146 (s (i + 1)) (gOf (h 180) (s (i + 1)) 1 - s (i + 3))) 146 (s (i + 2)) (gOf (h 180) (s (i + 2)) 1 + s (i + 3))) hI (fun a g1 g2 => by simp (disch := omega) only [fup_s, fup_k, fup_a, fup_r, frow_s, frow_r, frow_sk, frow_rk, fcpy_r, frng_r]) hS2 (fun a g1 g2 g3 g4 g5 => by simp (disch := omega) only [fup_s, fup_k, fup_a, fup_r, frow_s, frow_r, frow_sk, frow_rk, fcpy_r, frng_r]) (by simp (disch := omega) only [fup_s, fup_k, fup_a, fup_r, frow_s, frow_r, frow_sk, frow_rk, fcpy_r, frng_r, hkr]) (by simp (disch := omega) only [fup_s, fup_k, fup_a, fup_r, frow_s, frow_r, frow_sk, frow_rk, fcpy_r, frng_r, hkr]) (by simp (disch := omega) only [fup_s, fup_k, fup_a, fup_r, frow_s, frow_r, frow_sk, frow_rk, fcpy_r, frng_r, hkr]) (fun k h1 h2 i h3 h4 => by simp (disch := omega) only [fup_s, fup_k, fup_a, fup_r, frow_s, frow_r, frow_sk, frow_rk, fcpy_r, frng_r]; exact hG k h1 h2 i h3 h4) (by simp (disch := omega) only [fup_s, fup_k, fup_a, fup_r, frow_s, frow_r, frow_sk, frow_rk, fcpy_r, frng_r, fup_180, hkr]) hNW) (by omega)
theorem Q_28 {i : Int} {l5 l6 : Option PV} {nx : Nat} {h r : PF} {s : Int → Int} {Q : PO → PY → Nat → PC → Prop} (hI : Inv h r) (hi : 0 ≤ i) (hi2 : i + 5 < s (-1)) (hi3 : s (-1) ≤ 4000) (H : ∀ (a b : Option PV) (nx' : Nat) (h' r' : PF), Inv h' r' → nx' ≤ nx + 1 → Wp 257 2079 [some (pR (-1000)), some (pR 1), some (pR 178), some (pR 195), some (pI i), a, b, none] [] LY nx' (h', r', s) Q) : Wp 257 1743 [some (pR (-1000)), some (pR 1), some (pR 178), some (pR 195), some (pI i), l5, l6, none] [] LY nx (h, r, s) Q := by
  obtain ⟨hW, hp0, hp1, hp2, hpk, hP, hS0, hk144, hT, hN, hR, hS, ep0, ep1, ep3, ep4, hT0, hT1⟩ := beg_of hI
  have k153 : kd LY 153 = (1, 80) := by decide +kernel
  have k152 : kd LY 152 = (1, 6) := by decide +kernel
  have k151 : kd LY 151 = (1, 60) := by decide +kernel
  obtain ⟨⟨hs0, hsk⟩, ⟨hsr0, hsp0, hsd0⟩, ⟨hsr1, hsp1, hsd1⟩, ⟨hsr2, hsp2, hsd2⟩, ⟨hsr3, hsp3, hsd3⟩, ⟨hsr4, hsp4, hsd4⟩, ⟨hsr5, hsp5, hsd5⟩, ⟨hsr6, hsp6, hsd6⟩, ⟨hsr7, hsp7, hsd7⟩, ⟨hsr12, hsp12, hsd12⟩⟩ := stok_144 hW
  have he := hI.2.2.2.2.2.1.2.2.1
  have hu0 := hI.2.2.2.2.2.1.1
  have hu1 := hI.2.2.2.2.2.1.2.1
  have hu : 0 ≤ h 21 0 ∧ h 21 0 ≤ 10 := by omega
  have hS0 := stok_144 hW
  have hp164 : 164 ≤ r 1 6 := by rcases hI.1.2.1 with z | z <;> omega
  have e8 := hS.1.1
  have hN3 := hN.1
  have hkr : ∀ a, (a < 21 ∨ a = 22 ∨ a = 23 ∨ 123 < a) → kepC h a = h a := fun a ha => kepC_r he ha
  have hRk : PlanRel (kepC h) (r 1 6) (h 179) := pr_fr (fun a h1 h2 => hkr a (by omega)) hR
  have hSk : StRel (kepC h) 144 (h 179) (h 180) := sr_fr (fun a h1 h2 => hkr a (by omega)) hS
  have hT3 := hT.2.2.2.1
  by_cases hm : s (i + 1) < 0 ∨ h 179 1 ≤ s (i + 1)
  · simp (disch := first | assumption | omega | (simp (disch := omega) only [fup_s, fup_k, fup_a, fup_r, frow_s, frow_r, frow_sk, frow_rk, fcpy_r, frng_r]; assumption) | (simp (disch := omega) only [fup_s, fup_k, fup_a, fup_r, frow_s, frow_r, frow_sk, frow_rk, fcpy_r, frng_r]; omega)) only [st_law_28, st_L_reset, st_X7_reset, st_X8_reset, ↓if_pos, ↓if_neg, if_pos, if_neg, ↓reduceIte, true_and, and_true, false_and, and_false, true_or, or_true, false_or, or_false, w32_id, Kv, Kn, fup_s, fup_a, fup_k, fup_fup, Int.reduceAdd, Int.reduceSub, Int.reduceMul, Int.reduceNeg, S_thrown, fup_s, fup_k, fup_a, fup_r, frow_s, frow_r, frow_sk, frow_rk, fcpy_r, frng_r, plcmp_eq, S_checkMachine, S_noMachine, S_checkPossible, S_throwsIf, S_of, kh_L_reset_1, kh_L_reset_2, kx_X7_reset, C_keep, hkr]
    all_goals ((try split) <;> exact H _ _ _ _ _ (inv_same hI ⟨fun a ha => by unfold Core at ha; simp (disch := omega) only [fup_r, frow_r], by simp (disch := omega) only [fup_k, fup_a, frow_rk], by simp (disch := omega) only [fup_k, fup_a, frow_rk], by simp (disch := omega) only [fup_k, fup_a, frow_rk]⟩) (by omega))
  have hm1 : 0 ≤ s (i + 1) ∧ s (i + 1) < h 179 1 := by omega
  have em := (st_m hS hm1.1 hm1.2).2.1
  simp only [Int.reduceAdd] at em
  have b1 := wm_coins (wn_wm hN) hm1.1 hm1.2
  have b3 := ((wn_wm hN).1 _ hm1.1 hm1.2).2.1
  have b4 := (wn_wm hN).2.1
  by_cases hc : gOf (h 180) (s (i + 1)) 1 < 2 * h 179 3
  · simp (disch := first | assumption | omega | (simp (disch := omega) only [fup_s, fup_k, fup_a, fup_r, frow_s, frow_r, frow_sk, frow_rk, fcpy_r, frng_r]; assumption) | (simp (disch := omega) only [fup_s, fup_k, fup_a, fup_r, frow_s, frow_r, frow_sk, frow_rk, fcpy_r, frng_r]; omega)) only [st_law_28, st_L_reset, st_X7_reset, st_X8_reset, ↓if_pos, ↓if_neg, if_pos, if_neg, ↓reduceIte, true_and, and_true, false_and, and_false, true_or, or_true, false_or, or_false, w32_id, Kv, Kn, fup_s, fup_a, fup_k, fup_fup, Int.reduceAdd, Int.reduceSub, Int.reduceMul, Int.reduceNeg, S_thrown, fup_s, fup_k, fup_a, fup_r, frow_s, frow_r, frow_sk, frow_rk, fcpy_r, frng_r, plcmp_eq, S_checkMachine, S_noMachine, S_checkPossible, S_throwsIf, S_of, kh_L_reset_1, kh_L_reset_2, kx_X7_reset, C_keep, hkr, em, ep4]
    all_goals ((try split) <;> exact H _ _ _ _ _ (inv_same hI ⟨fun a ha => by unfold Core at ha; simp (disch := omega) only [fup_r, frow_r], by simp (disch := omega) only [fup_k, fup_a, frow_rk], by simp (disch := omega) only [fup_k, fup_a, frow_rk], by simp (disch := omega) only [fup_k, fup_a, frow_rk]⟩) (by omega))
  have hNW := wn_of hN (wm_fresh hT (wm_chest (c := 2 * h 179 3) (a := 3) hT (wn_wm hN) hm1.1 hm1.2 (by omega) (by omega) (by omega) (by omega)) hm1.1 hm1.2) (fun k hk => by rw [gFresh_lo (by omega) (by omega)]; unfold gChest; rw [up1_k (by omega), up1_k (by omega), up1_k (by omega)])
  simp (disch := first | assumption | omega | (simp (disch := omega) only [fup_s, fup_k, fup_a, fup_r, frow_s, frow_r, frow_sk, frow_rk, fcpy_r, frng_r]; assumption) | (simp (disch := omega) only [fup_s, fup_k, fup_a, fup_r, frow_s, frow_r, frow_sk, frow_rk, fcpy_r, frng_r]; omega)) only [st_law_28, st_L_reset, st_X7_reset, ↓if_pos, ↓if_neg, if_pos, if_neg, ↓reduceIte, true_and, and_true, false_and, and_false, true_or, or_true, false_or, or_false, w32_id, Kv, Kn, fup_s, fup_a, fup_k, fup_fup, Int.reduceAdd, Int.reduceSub, Int.reduceMul, Int.reduceNeg, S_thrown, fup_s, fup_k, fup_a, fup_r, frow_s, frow_r, frow_sk, frow_rk, fcpy_r, frng_r, plcmp_eq, S_checkMachine, S_noMachine, S_checkPossible, S_throwsIf, S_of, kh_L_reset_1, kh_L_reset_2, kx_X7_reset, C_keep, hkr, em, ep4]
  refine C_payForReset hP hS0 hT hN3.2 hN.2.2.2.1.2 hRk hSk (by omega) hm1.1 hm1.2 (by omega) (by omega) (by omega) (fun h' hf0 hS' => ?_)
  have hf : ∀ a, a < 9 ∨ 14 < a → a < 144 ∨ 153 < a → h' a = kepC h a := fun a _ h2 => hf0 a (by omega)
  have em2 := (st_m hS' hm1.1 hm1.2).2.1
  simp only [Int.reduceAdd] at em2
  have hq : ∀ a, a < 9 ∨ 14 < a → a < 144 ∨ 153 < a → a < 21 ∨ a = 22 ∨ a = 23 ∨ 123 < a → h' a = h a := fun a h1 h2 h3 => by rw [hf a h1 h2, hkr a h3]
  have e178 : h' 178 = h 178 := hq 178 (by omega) (by omega) (by omega)
  have e179 : h' 179 = h 179 := hq 179 (by omega) (by omega) (by omega)
  have e180 : h' 180 = h 180 := hq 180 (by omega) (by omega) (by omega)
  have e192 : h' 192 = h 192 := hq 192 (by omega) (by omega) (by omega)
  have hT' : TWf (h' 179) := by rw [e179]; exact hT
  simp (disch := first | assumption | omega | (simp (disch := omega) only [fup_s, fup_k, fup_a, fup_r, frow_s, frow_r, frow_sk, frow_rk, fcpy_r, frng_r]; assumption) | (simp (disch := omega) only [fup_s, fup_k, fup_a, fup_r, frow_s, frow_r, frow_sk, frow_rk, fcpy_r, frng_r]; omega) | (simp (disch := omega) only [fup_s, fup_k, fup_a, fup_r, frow_s, frow_r, frow_sk, frow_rk, fcpy_r, frng_r, e178, e179, e180]; assumption) | (simp (disch := omega) only [fup_s, fup_k, fup_a, fup_r, frow_s, frow_r, frow_sk, frow_rk, fcpy_r, frng_r, e178, e179, e180]; omega)) only [st_law_28, st_L_reset, st_X7_reset, st_X8_reset, ↓if_pos, ↓if_neg, if_pos, if_neg, ↓reduceIte, true_and, and_true, false_and, and_false, true_or, or_true, false_or, or_false, w32_id, Kv, Kn, fup_s, fup_a, fup_k, fup_fup, Int.reduceAdd, Int.reduceSub, Int.reduceMul, Int.reduceNeg, S_thrown, fup_s, fup_k, fup_a, fup_r, frow_s, frow_r, frow_sk, frow_rk, fcpy_r, frng_r, plcmp_eq, S_checkMachine, S_noMachine, S_checkPossible, S_throwsIf, S_of, kh_L_reset_1, kh_L_reset_2, kx_X7_reset, C_keep, hkr, em2, e179, e180]
  refine S_keeps hW (by simp (disch := omega) only [fup_s, fup_k, fup_a, fup_r, frow_s, frow_r, frow_sk, frow_rk, fcpy_r, frng_r, e178, e180, e192]; exact hu1) (fun G hG => ?_)
  simp (disch := omega) only [fup_s, fup_k, fup_a, fup_r, frow_s, frow_r, frow_sk, frow_rk, fcpy_r, frng_r, e178, e180, e192] at hG ⊢
  simp (disch := first | assumption | omega | (simp (disch := omega) only [fup_s, fup_k, fup_a, fup_r, frow_s, frow_r, frow_sk, frow_rk, fcpy_r, frng_r]; assumption) | (simp (disch := omega) only [fup_s, fup_k, fup_a, fup_r, frow_s, frow_r, frow_sk, frow_rk, fcpy_r, frng_r]; omega) | (simp (disch := omega) only [fup_s, fup_k, fup_a, fup_r, frow_s, frow_r, frow_sk, frow_rk, fcpy_r, frng_r, e178, e179, e180]; assumption) | (simp (disch := omega) only [fup_s, fup_k, fup_a, fup_r, frow_s, frow_r, frow_sk, frow_rk, fcpy_r, frng_r, e178, e179, e180]; omega)) only [st_law_28, st_X8_reset, st_L_reset, ↓if_pos, ↓if_neg, if_pos, if_neg, ↓reduceIte, true_and, and_true, false_and, and_false, true_or, or_true, false_or, or_false, w32_id, Kv, Kn, fup_s, fup_a, fup_k, fup_fup, Int.reduceAdd, Int.reduceSub, Int.reduceMul, Int.reduceNeg, S_thrown, fup_s, fup_k, fup_a, fup_r, frow_s, frow_r, frow_sk, frow_rk, fcpy_r, frng_r, plcmp_eq, S_checkMachine, S_noMachine, S_checkPossible, S_throwsIf, S_of, kh_L_reset_1, kh_L_reset_2, kx_X7_reset, C_keep, hkr, S_intoChestP, S_freshens, e179, e180]
  refine H _ _ _ _ _ (inv_kept (h1 := h') hI hf hS' (fun a g1 g2 g3 g4 g5 => by simp (disch := omega) only [fup_s, fup_k, fup_a, fup_r, frow_s, frow_r, frow_sk, frow_rk, fcpy_r, frng_r]) (by simp (disch := omega) only [fup_s, fup_k, fup_a, fup_r, frow_s, frow_r, frow_sk, frow_rk, fcpy_r, frng_r, e178, e179, e180]) (by simp (disch := omega) only [fup_s, fup_k, fup_a, fup_r, frow_s, frow_r, frow_sk, frow_rk, fcpy_r, frng_r, e178, e179, e180]) (by simp (disch := omega) only [fup_s, fup_k, fup_a, fup_r, frow_s, frow_r, frow_sk, frow_rk, fcpy_r, frng_r, e178, e179, e180]) (fun k h1 h2 i h3 h4 => by simp (disch := omega) only [fup_s, fup_k, fup_a, fup_r, frow_s, frow_r, frow_sk, frow_rk, fcpy_r, frng_r]; exact hG k h1 h2 i h3 h4) (by simp (disch := omega) only [fup_s, fup_k, fup_a, fup_r, frow_s, frow_r, frow_sk, frow_rk, fcpy_r, frng_r, e178, e179, e180]) hNW) (by omega)
