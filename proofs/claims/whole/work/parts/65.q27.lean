/-! BUYING A LETTER -/
theorem bit1 : ∀ k j : Fin 6, (pand (pshr (pshl 1 ((k.val : Nat) : Int)) ((j.val : Nat) : Int)) 1 = 1 ↔ j = k) := by decide +kernel
theorem bit_one {k j : Int} (hk : 0 ≤ k) (hk2 : k < 6) (hj : 0 ≤ j) (hj2 : j < 6) : pand (pshr (pshl 1 k) j) 1 = 1 ↔ j = k := by
  have := bit1 ⟨k.toNat, by omega⟩ ⟨j.toNat, by omega⟩
  simp only [Int.toNat_of_nonneg hk, Int.toNat_of_nonneg hj, Fin.mk.injEq] at this
  rw [this, show (j.toNat = k.toNat ↔ j = k) from by omega]
def gBuy (N : Int → Int) (m l w : Int) : Int → Int := gChest (gWrites N l w (pshl 1 m)) m w 1
theorem gBuy_of {N : Int → Int} {m l w j q : Int} (hj : 0 ≤ j ∧ j < 4) (hm : 0 ≤ m ∧ m < 4) (hq : 0 ≤ q ∧ q < 11) (hq1 : q ≠ 1) : gOf (gBuy N m l w) j q = gOf N j q := by
  unfold gBuy gChest
  rw [gOf_k (by omega), gOf_k (by omega), gOf_k (by omega)]
  unfold gOf
  exact gWrites_lo (by omega)
theorem gBuy_k {N : Int → Int} {m l w k : Int} (hm : 0 ≤ m ∧ m < 4) (hk : k < 64 ∨ k = 108) (hk1 : k ≠ 1) : gBuy N m l w k = gWrites N l w (pshl 1 m) k := by
  unfold gBuy gChest
  rw [up1_k (by omega), up1_k (by omega), up1_k (by omega)]
theorem gWrites_108 {N : Int → Int} {l w b : Int} (h : 0 ≤ N 108 ∧ N 108 ≤ 20) : 0 ≤ gWrites N l w b 108 ∧ gWrites N l w b 108 ≤ 20 := by
  unfold gWrites
  rw [if_neg (by omega), if_neg (by omega), if_neg (by omega), if_neg (by omega), if_neg (by omega), if_pos rfl]
  split
  · rw [w32_id (by omega) (by omega)]; omega
  · rw [w32_id (by omega) (by omega)]; omega
theorem wm_writes {T N : Int → Int} {w p b : Int} (hT : TWf T) (hM : MWf T N) : MWf T (gWrites N w p b) := (gR1_ok (w := w) (pr := p) (b := b) (P := fun _ => 0) hT hM (fun m h1 h2 => ⟨Int.le_refl 0, (hM.1 m h1 h2).2.1⟩) 0 (by have := hT.2.1; omega)).1
theorem buy_ok {T N : Int → Int} {m l w : Int} (hT : TWf T) (hN : NWf T N) (h60 : N 3 < 60) (hm : 0 ≤ m) (hm2 : m < T 1) (hl : 0 ≤ l) (hl2 : l < T 0) (hw : 0 ≤ w) (hw2 : w ≤ gOf N m 1) (hc : 0 ≤ gTo T N m l ∧ ¬ (0 < gS T m (gTo T N m l) 1 ∧ gOf N m (5 + (gTo T N m l)) = 0)) : MWf T (gBuy N m l w) ∧ (∀ j, 0 ≤ j → j < T 1 → pand (pshr (pshl 1 m) j) 1 = 1 → 0 ≤ gTo T (gBuy N m l w) j l ∧ ¬ (0 < gS T j (gTo T (gBuy N m l w) j l) 1 ∧ gOf (gBuy N m l w) j (5 + (gTo T (gBuy N m l w) j l)) = 0)) ∧ NWf T (gSays T (gBuy N m l w) l (pshl 1 m)) ∧ gSays T (gBuy N m l w) l (pshl 1 m) 3 = N 3 + 1 := by
  have hT0 := hT.1
  have hT1 := hT.2.1
  have hN3 := hN.1
  have hMW : MWf T (gWrites N l w (pshl 1 m)) := wm_writes hT (wn_wm hN)
  have e1 : gOf (gWrites N l w (pshl 1 m)) m 1 = gOf N m 1 := gWrites_lo (by omega)
  have hMB : MWf T (gBuy N m l w) := wm_chest hT hMW hm hm2 hw (by rw [e1]; exact hw2) (by omega) (by omega)
  have hst := ((wn_wm hN).1 m hm hm2).1
  have hg := gTo_rng hT (wn_wm hN) hm hm2 hl (show l < 4 by omega)
  have hto : gTo T (gBuy N m l w) m l = gTo T N m l := by
    unfold gTo
    rw [gBuy_of ⟨hm, by omega⟩ ⟨hm, by omega⟩ (by omega) (by omega)]
  have hcb : ∀ j, 0 ≤ j → j < T 1 → pand (pshr (pshl 1 m) j) 1 = 1 → 0 ≤ gTo T (gBuy N m l w) j l ∧ ¬ (0 < gS T j (gTo T (gBuy N m l w) j l) 1 ∧ gOf (gBuy N m l w) j (5 + (gTo T (gBuy N m l w) j l)) = 0) := by
    intro j hj hj2 hb
    have ej : j = m := (bit_one hm (by omega) hj (by omega)).mp hb
    rw [ej, hto, gBuy_of ⟨hm, by omega⟩ ⟨hm, by omega⟩ (by omega) (by omega)]
    exact hc
  have b3 : gBuy N m l w 3 = N 3 := by rw [gBuy_k ⟨hm, by omega⟩ (by omega) (by omega)]; exact gWrites_lo (by omega)
  have hs := wm_says (l := l) (b := pshl 1 m) hT hMB hl hl2 (by rw [b3]; omega) hcb
  have s3 : gSays T (gBuy N m l w) l (pshl 1 m) 3 = N 3 + 1 := by
    rw [hs.2 3 (by omega) (by omega) (by omega)]
    unfold gSay0
    rw [up1_s, b3]
  refine ⟨hMB, hcb, ⟨by rw [s3]; omega, fun k hk hk2 => ?_, ?_, ?_, hs.1.1, hs.1.2.1, hs.1.2.2⟩, s3⟩
  · rw [s3] at hk2
    rw [hs.2 (4 + k) (by omega) (by omega) (by omega)]
    unfold gSay0
    rw [up1_k (by omega), b3]
    by_cases hk3 : k = N 3
    · rw [hk3, up1_s]; exact ⟨hl, hl2⟩
    · rw [up1_k (by omega), gBuy_k ⟨hm, by omega⟩ (by omega) (by omega), gWrites_lo (by omega)]
      exact hN.2.1 k hk (by omega)
  · have e2 : gSays T (gBuy N m l w) l (pshl 1 m) 2 = N 2 := by
      rw [hs.2 2 (by omega) (by omega) (by omega)]
      unfold gSay0
      rw [up1_k (by omega), up1_k (by omega), gBuy_k ⟨hm, by omega⟩ (by omega) (by omega), gWrites_lo (by omega)]
    rw [e2]
    exact hN.2.2.1
  · have e2 : gSays T (gBuy N m l w) l (pshl 1 m) 108 = gWrites N l w (pshl 1 m) 108 := by
      rw [hs.2 108 (by omega) (by omega) (by omega)]
      unfold gSay0
      rw [up1_k (by omega), up1_k (by omega), gBuy_k ⟨hm, by omega⟩ (by omega) (by omega)]
    rw [e2]
    exact gWrites_108 hN.2.2.2.1
theorem C_note {b l c m : Int} {T N : Int → Int} {nx : Nat} {h r : PF} {s : Int → Int} {Q : PO → PY → Nat → PC → Prop} (hS0 : StOk r b) (hT1 : T 1 ≤ 4) (h60 : N 3 ≤ 60) (h108 : 0 ≤ N 108 ∧ N 108 ≤ 20) (hS : StRel h b T N) (K : ∀ h' : PF, (∀ a, a < b ∨ b + 9 < a → h' a = h a) → StRel h' b T (gWrites N l c m) → Q (Sum.inl none) LY nx (h', r, s)) : Wp 70 0 [some (pR b), some (pI l), some (pI c), some (pI m), none] [] LY nx (h, r, s) Q :=
  (S_note hS0 hS.1.2.2.2.2.2.1 hS.1.2.2.2.2.2.2.1).mpr (K _ (fun a ha => by rw [fup_r (by omega), fup_r (by omega), fup_r (by omega), fup_r (by omega), fup_r (by omega), fup_r (by omega)]) (sr_note hT1 h60 h108 hS))
theorem S_canGoP {m l : Int} {nx : Nat} {h r : PF} {s : Int → Int} {Q : PO → PY → Nat → PC → Prop} (hW : WFr r) (hT : TWf (h 179)) (hm : 0 ≤ m) (hm2 : m < h 179 1) (hM : MOk (h 179) (h 180) m) (hl : 0 ≤ l) (hl2 : l < 4) : Wp 173 0 [some (pR 178), some (pI m), some (pI l), none] [] LY nx (h, r, s) Q ↔ if 0 ≤ gTo (h 179) (h 180) m l ∧ ¬ (0 < gS (h 179) m (gTo (h 179) (h 180) m l) 1 ∧ gOf (h 180) m (5 + (gTo (h 179) (h 180) m l)) = 0) then Q (Sum.inl (some (pI 1))) LY nx (h, r, s) else Q (Sum.inl (some (pI 0))) LY nx (h, r, s) := by
  have := S_canGo (nx := nx) (h := h) (N := h 180) (r := r) (s := s) (Q := Q) hW hT hm hm2 hM hl hl2
  rwa [frow_self] at this
theorem Q_27 {i : Int} {l5 l6 : Option PV} {nx : Nat} {h r : PF} {s : Int → Int} {Q : PO → PY → Nat → PC → Prop} (hI : Inv h r) (hi : 0 ≤ i) (hi2 : i + 5 < s (-1)) (hi3 : s (-1) ≤ 4000) (H : ∀ (a b : Option PV) (nx' : Nat) (h' r' : PF), Inv h' r' → nx' ≤ nx + 1 → Wp 257 2079 [some (pR (-1000)), some (pR 1), some (pR 178), some (pR 195), some (pI i), a, b, none] [] LY nx' (h', r', s) Q) : Wp 257 1675 [some (pR (-1000)), some (pR 1), some (pR 178), some (pR 195), some (pI i), l5, l6, none] [] LY nx (h, r, s) Q := by
  obtain ⟨hW, hp0, hp1, hp2, hpk, hP, hS0, hk144, hT, hN, hR, hS, ep0, ep1, ep3, ep4, hT0, hT1⟩ := beg_of hI
  have k153 : kd LY 153 = (1, 80) := by decide +kernel
  have k152 : kd LY 152 = (1, 6) := by decide +kernel
  have k151 : kd LY 151 = (1, 60) := by decide +kernel
  obtain ⟨⟨hs0, hsk⟩, ⟨hsr0, hsp0, hsd0⟩, ⟨hsr1, hsp1, hsd1⟩, ⟨hsr2, hsp2, hsd2⟩, ⟨hsr3, hsp3, hsd3⟩, ⟨hsr4, hsp4, hsd4⟩, ⟨hsr5, hsp5, hsd5⟩, ⟨hsr6, hsp6, hsd6⟩, ⟨hsr7, hsp7, hsd7⟩, ⟨hsr12, hsp12, hsd12⟩⟩ := stok_144 hW
  have he := hI.2.2.2.2.2.1.2.2.1
  have hu0 := hI.2.2.2.2.2.1.1
  have hu1 := hI.2.2.2.2.2.1.2.1
  have hu : 0 ≤ h 21 0 ∧ h 21 0 ≤ 10 := by omega
  have hS0 := stok_144 hW
  have hp164 : 164 ≤ r 1 6 := by rcases hI.1.2.1 with z | z <;> omega
  have e8 := hS.1.1
  have hN3 := hN.1
  have hkr : ∀ a, (a < 21 ∨ a = 22 ∨ a = 23 ∨ 123 < a) → kepC h a = h a := fun a ha => kepC_r he ha
  have hRk : PlanRel (kepC h) (r 1 6) (h 179) := pr_fr (fun a h1 h2 => hkr a (by omega)) hR
  have hSk : StRel (kepC h) 144 (h 179) (h 180) := sr_fr (fun a h1 h2 => hkr a (by omega)) hS
  by_cases hm : s (i + 1) < 0 ∨ h 179 1 ≤ s (i + 1)
  · simp (disch := first | assumption | omega | (simp (disch := omega) only [fup_s, fup_k, fup_a, fup_r, frow_s, frow_r, frow_sk, frow_rk, fcpy_r, frng_r]; assumption) | (simp (disch := omega) only [fup_s, fup_k, fup_a, fup_r, frow_s, frow_r, frow_sk, frow_rk, fcpy_r, frng_r]; omega)) only [st_law_27, st_L_buy, st_X7_buy_0, st_X7_buy_1, st_X8_buy_0, st_X8_buy_1, st_X5_isFull, ↓if_pos, ↓if_neg, if_pos, if_neg, ↓reduceIte, true_and, and_true, false_and, and_false, true_or, or_true, false_or, or_false, w32_id, Kv, Kn, fup_s, fup_a, fup_k, fup_fup, Int.reduceAdd, Int.reduceSub, Int.reduceMul, Int.reduceNeg, S_thrown, fup_s, fup_k, fup_a, fup_r, frow_s, frow_r, frow_sk, frow_rk, fcpy_r, frng_r, plcmp_eq, S_checkMachine, S_noMachine, S_checkLetter, S_no, S_checkPossible, S_throwsIf, S_of, kh_L_buy_1, kh_L_buy_2, kx_X7_buy, e8]
    all_goals ((try split) <;> exact H _ _ _ _ _ (inv_same hI ⟨fun a ha => by unfold Core at ha; simp (disch := omega) only [fup_r, frow_r], by simp (disch := omega) only [fup_k, fup_a, frow_rk], by simp (disch := omega) only [fup_k, fup_a, frow_rk], by simp (disch := omega) only [fup_k, fup_a, frow_rk]⟩) (by omega))
  have hm1 : 0 ≤ s (i + 1) ∧ s (i + 1) < h 179 1 := by omega
  by_cases hl : s (i + 2) < 0 ∨ h 179 0 ≤ s (i + 2)
  · simp (disch := first | assumption | omega | (simp (disch := omega) only [fup_s, fup_k, fup_a, fup_r, frow_s, frow_r, frow_sk, frow_rk, fcpy_r, frng_r]; assumption) | (simp (disch := omega) only [fup_s, fup_k, fup_a, fup_r, frow_s, frow_r, frow_sk, frow_rk, fcpy_r, frng_r]; omega)) only [st_law_27, st_L_buy, st_X7_buy_0, st_X7_buy_1, st_X8_buy_0, st_X8_buy_1, st_X5_isFull, ↓if_pos, ↓if_neg, if_pos, if_neg, ↓reduceIte, true_and, and_true, false_and, and_false, true_or, or_true, false_or, or_false, w32_id, Kv, Kn, fup_s, fup_a, fup_k, fup_fup, Int.reduceAdd, Int.reduceSub, Int.reduceMul, Int.reduceNeg, S_thrown, fup_s, fup_k, fup_a, fup_r, frow_s, frow_r, frow_sk, frow_rk, fcpy_r, frng_r, plcmp_eq, S_checkMachine, S_noMachine, S_checkLetter, S_no, S_checkPossible, S_throwsIf, S_of, kh_L_buy_1, kh_L_buy_2, kx_X7_buy, e8]
    all_goals ((try split) <;> exact H _ _ _ _ _ (inv_same hI ⟨fun a ha => by unfold Core at ha; simp (disch := omega) only [fup_r, frow_r], by simp (disch := omega) only [fup_k, fup_a, frow_rk], by simp (disch := omega) only [fup_k, fup_a, frow_rk], by simp (disch := omega) only [fup_k, fup_a, frow_rk]⟩) (by omega))
  have hl1 : 0 ≤ s (i + 2) ∧ s (i + 2) < h 179 0 := by omega
  by_cases hfull : h 180 3 = 60
  · simp (disch := first | assumption | omega | (simp (disch := omega) only [fup_s, fup_k, fup_a, fup_r, frow_s, frow_r, frow_sk, frow_rk, fcpy_r, frng_r]; assumption) | (simp (disch := omega) only [fup_s, fup_k, fup_a, fup_r, frow_s, frow_r, frow_sk, frow_rk, fcpy_r, frng_r]; omega)) only [st_law_27, st_L_buy, st_X7_buy_0, st_X7_buy_1, st_X8_buy_0, st_X8_buy_1, st_X5_isFull, ↓if_pos, ↓if_neg, if_pos, if_neg, ↓reduceIte, true_and, and_true, false_and, and_false, true_or, or_true, false_or, or_false, w32_id, Kv, Kn, fup_s, fup_a, fup_k, fup_fup, Int.reduceAdd, Int.reduceSub, Int.reduceMul, Int.reduceNeg, S_thrown, fup_s, fup_k, fup_a, fup_r, frow_s, frow_r, frow_sk, frow_rk, fcpy_r, frng_r, plcmp_eq, S_checkMachine, S_noMachine, S_checkLetter, S_no, S_checkPossible, S_throwsIf, S_of, kh_L_buy_1, kh_L_buy_2, kx_X7_buy, e8]
    all_goals ((try split) <;> exact H _ _ _ _ _ (inv_same hI ⟨fun a ha => by unfold Core at ha; simp (disch := omega) only [fup_r, frow_r], by simp (disch := omega) only [fup_k, fup_a, frow_rk], by simp (disch := omega) only [fup_k, fup_a, frow_rk], by simp (disch := omega) only [fup_k, fup_a, frow_rk]⟩) (by omega))
  have hMm := (wn_wm hN).1 _ hm1.1 hm1.2
  have hst := hMm.1
  have hMO := wm_ok (wn_wm hN) hm1.1 hm1.2
  by_cases hcg : 0 ≤ gTo (h 179) (h 180) (s (i + 1)) (s (i + 2)) ∧ ¬ (0 < gS (h 179) (s (i + 1)) (gTo (h 179) (h 180) (s (i + 1)) (s (i + 2))) 1 ∧ gOf (h 180) (s (i + 1)) (5 + (gTo (h 179) (h 180) (s (i + 1)) (s (i + 2)))) = 0)
  · have em := st_m hS hm1.1 hm1.2
    simp only [Int.reduceAdd] at em
    obtain ⟨_, em1, em2, _, _⟩ := em
    have b1 := wm_coins (wn_wm hN) hm1.1 hm1.2
    have b4 := (wn_wm hN).2.1
    by_cases hcw : gOf (h 180) (s (i + 1)) 1 < gOf (h 180) (s (i + 1)) 2
    · simp (disch := first | assumption | omega | (simp (disch := omega) only [fup_s, fup_k, fup_a, fup_r, frow_s, frow_r, frow_sk, frow_rk, fcpy_r, frng_r]; assumption) | (simp (disch := omega) only [fup_s, fup_k, fup_a, fup_r, frow_s, frow_r, frow_sk, frow_rk, fcpy_r, frng_r]; omega)) only [st_law_27, st_L_buy, st_X7_buy_0, st_X7_buy_1, st_X8_buy_0, st_X8_buy_1, st_X5_isFull, ↓if_pos, ↓if_neg, if_pos, if_neg, ↓reduceIte, true_and, and_true, false_and, and_false, true_or, or_true, false_or, or_false, w32_id, Kv, Kn, fup_s, fup_a, fup_k, fup_fup, Int.reduceAdd, Int.reduceSub, Int.reduceMul, Int.reduceNeg, S_thrown, fup_s, fup_k, fup_a, fup_r, frow_s, frow_r, frow_sk, frow_rk, fcpy_r, frng_r, plcmp_eq, S_checkMachine, S_noMachine, S_checkLetter, S_no, S_checkPossible, S_throwsIf, S_of, kh_L_buy_1, kh_L_buy_2, kx_X7_buy, e8, D_canGo hP hS0 hT hR hS, S_canGoP, if_pos hcg, em1, em2]
      all_goals ((try split) <;> exact H _ _ _ _ _ (inv_same hI ⟨fun a ha => by unfold Core at ha; simp (disch := omega) only [fup_r, frow_r], by simp (disch := omega) only [fup_k, fup_a, frow_rk], by simp (disch := omega) only [fup_k, fup_a, frow_rk], by simp (disch := omega) only [fup_k, fup_a, frow_rk]⟩) (by omega))
    have hok := buy_ok (w := gOf (h 180) (s (i + 1)) 2) hT hN (by omega) hm1.1 hm1.2 hl1.1 hl1.2 (by omega) (by omega) hcg
    obtain ⟨hMB, hcb, hNS, hs3⟩ := hok
    simp (disch := first | assumption | omega | (simp (disch := omega) only [fup_s, fup_k, fup_a, fup_r, frow_s, frow_r, frow_sk, frow_rk, fcpy_r, frng_r]; assumption) | (simp (disch := omega) only [fup_s, fup_k, fup_a, fup_r, frow_s, frow_r, frow_sk, frow_rk, fcpy_r, frng_r]; omega)) only [st_law_27, st_L_buy, st_X7_buy_0, st_X7_buy_1, st_X5_isFull, ↓if_pos, ↓if_neg, if_pos, if_neg, ↓reduceIte, true_and, and_true, false_and, and_false, true_or, or_true, false_or, or_false, w32_id, Kv, Kn, fup_s, fup_a, fup_k, fup_fup, Int.reduceAdd, Int.reduceSub, Int.reduceMul, Int.reduceNeg, S_thrown, fup_s, fup_k, fup_a, fup_r, frow_s, frow_r, frow_sk, frow_rk, fcpy_r, frng_r, plcmp_eq, S_checkMachine, S_noMachine, S_checkLetter, S_no, S_checkPossible, S_throwsIf, S_of, kh_L_buy_1, kh_L_buy_2, kx_X7_buy, e8, D_canGo hP hS0 hT hR hS, if_pos hcg, em1, em2, C_keep, hkr]
    refine C_note hS0 hT1.2 (by omega) hN.2.2.2.1 hSk (fun h1 f1 hS1 => ?_)
    simp (disch := first | assumption | omega | (simp (disch := omega) only [fup_s, fup_k, fup_a, fup_r, frow_s, frow_r, frow_sk, frow_rk, fcpy_r, frng_r]; assumption) | (simp (disch := omega) only [fup_s, fup_k, fup_a, fup_r, frow_s, frow_r, frow_sk, frow_rk, fcpy_r, frng_r]; omega)) only [st_law_27, st_L_buy, st_X7_buy_0, st_X7_buy_1, ↓if_pos, ↓if_neg, if_pos, if_neg, ↓reduceIte, true_and, and_true, false_and, and_false, true_or, or_true, false_or, or_false, w32_id, Kv, Kn, fup_s, fup_a, fup_k, fup_fup, Int.reduceAdd, Int.reduceSub, Int.reduceMul, Int.reduceNeg, S_thrown, fup_s, fup_k, fup_a, fup_r, frow_s, frow_r, frow_sk, frow_rk, fcpy_r, frng_r, plcmp_eq]
    have eW1 : gOf (gWrites (h 180) (s (i + 2)) (gOf (h 180) (s (i + 1)) 2) (pshl 1 (s (i + 1)))) (s (i + 1)) 1 = gOf (h 180) (s (i + 1)) 1 := gWrites_lo (by omega)
    refine C_pay hS0 hT1.2 (by rw [gWrites_lo (by omega)]; omega) (gWrites_108 hN.2.2.2.1).2 hS1 hm1.1 hm1.2 (by omega) (by omega) (by omega) (by rw [eW1]; omega) (by rw [gWrites_lo (by omega)]; omega) (fun h2 f2 hS2 => ?_)
    simp (disch := first | assumption | omega | (simp (disch := omega) only [fup_s, fup_k, fup_a, fup_r, frow_s, frow_r, frow_sk, frow_rk, fcpy_r, frng_r]; assumption) | (simp (disch := omega) only [fup_s, fup_k, fup_a, fup_r, frow_s, frow_r, frow_sk, frow_rk, fcpy_r, frng_r]; omega)) only [st_law_27, st_L_buy, st_X7_buy_0, st_X7_buy_1, ↓if_pos, ↓if_neg, if_pos, if_neg, ↓reduceIte, true_and, and_true, false_and, and_false, true_or, or_true, false_or, or_false, w32_id, Kv, Kn, fup_s, fup_a, fup_k, fup_fup, Int.reduceAdd, Int.reduceSub, Int.reduceMul, Int.reduceNeg, S_thrown, fup_s, fup_k, fup_a, fup_r, frow_s, frow_r, frow_sk, frow_rk, fcpy_r, frng_r, plcmp_eq]
    have e108 : gBuy (h 180) (s (i + 1)) (s (i + 2)) (gOf (h 180) (s (i + 1)) 2) 108 ≤ 20 := by rw [gBuy_k ⟨hm1.1, by omega⟩ (by omega) (by omega)]; exact (gWrites_108 hN.2.2.2.1).2
    have e3 : gBuy (h 180) (s (i + 1)) (s (i + 2)) (gOf (h 180) (s (i + 1)) 2) 3 = h 180 3 := by rw [gBuy_k ⟨hm1.1, by omega⟩ (by omega) (by omega), gWrites_lo (by omega)]
    have hf2 : ∀ a, a < 144 ∨ 153 < a → h2 a = kepC h a := fun a ha => by rw [f2 a (by omega), f1 a (by omega)]
    refine C_tell hW hP hS0 hT e108 (pr_fr (fun a h3 h4 => hf2 a (by omega)) hRk) hS2 (by omega) hMB (by rw [e3]; omega) hl1.1 hl1.2 hcb (fun h' f3 hS' => ?_)
    have hf : ∀ a, a < 9 ∨ 14 < a → a < 144 ∨ 153 < a → h' a = kepC h a := fun a _ ha => by rw [f3 a (by omega), hf2 a ha]
    have e38 : h' 144 8 = h 180 3 + 1 := by rw [hS'.1.1]; exact hs3
    have hq : ∀ a, a < 9 ∨ 14 < a → a < 144 ∨ 153 < a → a < 21 ∨ a = 22 ∨ a = 23 ∨ 123 < a → h' a = h a := fun a h1 h2 h3 => by rw [hf a h1 h2, hkr a h3]
    have e178 : h' 178 = h 178 := hq 178 (by omega) (by omega) (by omega)
    have e179 : h' 179 = h 179 := hq 179 (by omega) (by omega) (by omega)
    have e180 : h' 180 = h 180 := hq 180 (by omega) (by omega) (by omega)
    have e192 : h' 192 = h 192 := hq 192 (by omega) (by omega) (by omega)
    have hT' : TWf (h' 179) := by rw [e179]; exact hT
    have hMO' : MOk (h' 179) (h' 180) (s (i + 1)) := by rw [e179, e180]; exact hMO
    have e1791 : h' 179 1 = h 179 1 := by rw [e179]
    have e1790 : h' 179 0 = h 179 0 := by rw [e179]
    simp (disch := first | assumption | omega | (simp (disch := omega) only [fup_s, fup_k, fup_a, fup_r, frow_s, frow_r, frow_sk, frow_rk, fcpy_r, frng_r]; assumption) | (simp (disch := omega) only [fup_s, fup_k, fup_a, fup_r, frow_s, frow_r, frow_sk, frow_rk, fcpy_r, frng_r]; omega)) only [st_law_27, st_L_buy, st_X7_buy_0, st_X7_buy_1, st_X8_buy_0, st_X8_buy_1, ↓if_pos, ↓if_neg, if_pos, if_neg, ↓reduceIte, true_and, and_true, false_and, and_false, true_or, or_true, false_or, or_false, w32_id, Kv, Kn, fup_s, fup_a, fup_k, fup_fup, Int.reduceAdd, Int.reduceSub, Int.reduceMul, Int.reduceNeg, S_thrown, fup_s, fup_k, fup_a, fup_r, frow_s, frow_r, frow_sk, frow_rk, fcpy_r, frng_r, plcmp_eq, S_checkMachine, S_noMachine, S_no, S_throwsIf, S_of, S_canGoP, if_pos hcg, e38, e179, e180]
    refine S_keeps hW (by simp (disch := omega) only [fup_s, fup_k, fup_a, fup_r, frow_s, frow_r, frow_sk, frow_rk, fcpy_r, frng_r, e178, e180, e192]; exact hu1) (fun G hG => ?_)
    simp (disch := omega) only [fup_s, fup_k, fup_a, fup_r, frow_s, frow_r, frow_sk, frow_rk, fcpy_r, frng_r, e178, e180, e192] at hG ⊢
    simp (disch := first | assumption | omega | (simp (disch := omega) only [fup_s, fup_k, fup_a, fup_r, frow_s, frow_r, frow_sk, frow_rk, fcpy_r, frng_r]; assumption) | (simp (disch := omega) only [fup_s, fup_k, fup_a, fup_r, frow_s, frow_r, frow_sk, frow_rk, fcpy_r, frng_r]; omega)) only [st_law_27, st_X8_buy_0, st_X8_buy_1, ↓if_pos, ↓if_neg, if_pos, if_neg, ↓reduceIte, true_and, and_true, false_and, and_false, true_or, or_true, false_or, or_false, w32_id, Kv, Kn, fup_s, fup_a, fup_k, fup_fup, Int.reduceAdd, Int.reduceSub, Int.reduceMul, Int.reduceNeg, S_thrown, fup_s, fup_k, fup_a, fup_r, frow_s, frow_r, frow_sk, frow_rk, fcpy_r, frng_r, plcmp_eq, S_of, S_writes, e179, e180]
    refine (S_intoChest hW (by simp (disch := omega) only [fup_s, fup_k, fup_a, fup_r, frow_s, frow_r, frow_sk, frow_rk, fcpy_r, frng_r, e179]; exact hT) hm1.1 (by omega) (by omega) (by omega) (by omega) (by omega) (by rw [eW1]; omega) (by rw [eW1]; omega) (by rw [gWrites_lo (by omega)]; omega) (by rw [gWrites_lo (by omega)]; omega)).mpr ?_
    simp (disch := first | assumption | omega | (simp (disch := omega) only [fup_s, fup_k, fup_a, fup_r, frow_s, frow_r, frow_sk, frow_rk, fcpy_r, frng_r]; assumption) | (simp (disch := omega) only [fup_s, fup_k, fup_a, fup_r, frow_s, frow_r, frow_sk, frow_rk, fcpy_r, frng_r]; omega)) only [st_law_27, st_X8_buy_0, st_X8_buy_1, ↓if_pos, ↓if_neg, if_pos, if_neg, ↓reduceIte, true_and, and_true, false_and, and_false, true_or, or_true, false_or, or_false, w32_id, Kv, Kn, fup_s, fup_a, fup_k, fup_fup, Int.reduceAdd, Int.reduceSub, Int.reduceMul, Int.reduceNeg, S_thrown, fup_s, fup_k, fup_a, fup_r, frow_s, frow_r, frow_sk, frow_rk, fcpy_r, frng_r, plcmp_eq]
    refine (S_says hW (by simp (disch := omega) only [fup_s, fup_k, fup_a, fup_r, frow_s, frow_r, frow_sk, frow_rk, fcpy_r, frng_r, e179]; exact hT) (by simp (disch := omega) only [fup_s, fup_k, fup_a, fup_r, frow_s, frow_r, frow_sk, frow_rk, fcpy_r, frng_r, e179]; exact hMB) hl1.1 (by simp (disch := omega) only [fup_s, fup_k, fup_a, fup_r, frow_s, frow_r, frow_sk, frow_rk, fcpy_r, frng_r, e179]; exact hl1.2) (by have e3' := e3; unfold gBuy at e3'; rw [e3']; omega) (by simp (disch := omega) only [fup_s, fup_k, fup_a, fup_r, frow_s, frow_r, frow_sk, frow_rk, fcpy_r, frng_r, e179]; exact hcb)).mpr ?_
    have hs3' := hs3
    unfold gBuy at hs3'
    simp (disch := first | assumption | omega | (simp (disch := omega) only [fup_s, fup_k, fup_a, fup_r, frow_s, frow_r, frow_sk, frow_rk, fcpy_r, frng_r]; assumption) | (simp (disch := omega) only [fup_s, fup_k, fup_a, fup_r, frow_s, frow_r, frow_sk, frow_rk, fcpy_r, frng_r]; omega)) only [st_law_27, st_X8_buy_0, st_X8_buy_1, st_L_buy, ↓if_pos, ↓if_neg, if_pos, if_neg, ↓reduceIte, true_and, and_true, false_and, and_false, true_or, or_true, false_or, or_false, w32_id, Kv, Kn, fup_s, fup_a, fup_k, fup_fup, Int.reduceAdd, Int.reduceSub, Int.reduceMul, Int.reduceNeg, S_thrown, fup_s, fup_k, fup_a, fup_r, frow_s, frow_r, frow_sk, frow_rk, fcpy_r, frng_r, plcmp_eq, e179, hs3']
    refine H _ _ _ _ _ (inv_kept (h1 := h') hI hf hS' (fun a g1 g2 g3 g4 g5 => by simp (disch := omega) only [fup_s, fup_k, fup_a, fup_r, frow_s, frow_r, frow_sk, frow_rk, fcpy_r, frng_r]) (by simp (disch := omega) only [fup_s, fup_k, fup_a, fup_r, frow_s, frow_r, frow_sk, frow_rk, fcpy_r, frng_r, e178, e179, e180]) (by simp (disch := omega) only [fup_s, fup_k, fup_a, fup_r, frow_s, frow_r, frow_sk, frow_rk, fcpy_r, frng_r, e178, e179, e180]) (by simp (disch := omega) only [fup_s, fup_k, fup_a, fup_r, frow_s, frow_r, frow_sk, frow_rk, fcpy_r, frng_r, e178, e179, e180]) (fun k h1 h2 i h3 h4 => by simp (disch := omega) only [fup_s, fup_k, fup_a, fup_r, frow_s, frow_r, frow_sk, frow_rk, fcpy_r, frng_r]; exact hG k h1 h2 i h3 h4) (by simp (disch := omega) only [fup_s, fup_k, fup_a, fup_r, frow_s, frow_r, frow_sk, frow_rk, fcpy_r, frng_r, e179]; rfl) hNS) (by omega)
  · simp (disch := first | assumption | omega | (simp (disch := omega) only [fup_s, fup_k, fup_a, fup_r, frow_s, frow_r, frow_sk, frow_rk, fcpy_r, frng_r]; assumption) | (simp (disch := omega) only [fup_s, fup_k, fup_a, fup_r, frow_s, frow_r, frow_sk, frow_rk, fcpy_r, frng_r]; omega)) only [st_law_27, st_L_buy, st_X7_buy_0, st_X7_buy_1, st_X8_buy_0, st_X8_buy_1, st_X5_isFull, ↓if_pos, ↓if_neg, if_pos, if_neg, ↓reduceIte, true_and, and_true, false_and, and_false, true_or, or_true, false_or, or_false, w32_id, Kv, Kn, fup_s, fup_a, fup_k, fup_fup, Int.reduceAdd, Int.reduceSub, Int.reduceMul, Int.reduceNeg, S_thrown, fup_s, fup_k, fup_a, fup_r, frow_s, frow_r, frow_sk, frow_rk, fcpy_r, frng_r, plcmp_eq, S_checkMachine, S_noMachine, S_checkLetter, S_no, S_checkPossible, S_throwsIf, S_of, kh_L_buy_1, kh_L_buy_2, kx_X7_buy, e8, D_canGo hP hS0 hT hR hS, S_canGoP, if_neg hcg]
    all_goals ((try split) <;> exact H _ _ _ _ _ (inv_same hI ⟨fun a ha => by unfold Core at ha; simp (disch := omega) only [fup_r, frow_r], by simp (disch := omega) only [fup_k, fup_a, frow_rk], by simp (disch := omega) only [fup_k, fup_a, frow_rk], by simp (disch := omega) only [fup_k, fup_a, frow_rk]⟩) (by omega))
