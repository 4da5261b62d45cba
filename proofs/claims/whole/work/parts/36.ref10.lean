theorem gTurns_ok {T N : Int → Int} (hT : TWf T) (h : MWf T N) (h2 : 0 ≤ N 2 ∧ N 2 < T 1) : MWf T (gTurns T N) ∧ (0 ≤ gTurns T N 2 ∧ gTurns T N 2 < T 1) ∧ ∀ k, k < 64 ∨ 108 ≤ k → k ≠ 1 → k ≠ 2 → k ≠ 192 → k ≠ 193 → gTurns T N k = N k := by
  have hT1 := hT.2.1
  have hT3 := hT.2.2.2.1
  have hM1 := wm_turn1 hT h h2
  have ht1 := gTurn1_1 hT h h2
  have hM2 : MWf T (gTurn2 T N) := wm_out hT hM1 (by omega) (by omega)
  have e21 : gTurn2 T N 1 = gTurn1 T N 1 := by unfold gTurn2; exact up1_k (by omega)
  have hd : pdiv (gTurn2 T N 1) (T 1) = gTurn1 T N 1 / T 1 := by rw [e21]; exact pdiv_nn (by omega) (by omega) (by omega) (by omega)
  have hs1 : 0 ≤ gTurn1 T N 1 / T 1 := Int.ediv_nonneg ht1.1 (by omega)
  have hs3 : gTurn1 T N 1 / T 1 * T 1 ≤ gTurn1 T N 1 := Int.ediv_mul_le _ (by omega)
  have hmc : ∀ m, 0 ≤ m → m < T 1 → 0 ≤ gOf (gTurn2 T N) m 1 ∧ gOf (gTurn2 T N) m 1 ≤ 3996 := fun m hm hm2 => ⟨(hM2.1 m hm hm2).2.1, (wm_coins hM2 hm hm2).1⟩
  have k3 := gTurn3_ok (s := pdiv (gTurn2 T N 1) (T 1)) hT hmc (T 1).toNat (by omega)
  have e3 : upto (gTurnF (pdiv (gTurn2 T N 1) (T 1))) (T 1).toNat (gTurn2 T N) = gTurn3 T N := rfl
  rw [e3] at k3
  obtain ⟨k31, k32, k33⟩ := k3
  have c1 : gTurn3 T N 1 = gTurn1 T N 1 := by rw [k32 1 (by omega), e21]
  have hgo : ∀ m, 0 ≤ m → m < T 1 → ∀ w, 0 ≤ w → w < 11 → gOf (gTurns T N) m w = if w = 1 then gOf (gTurn2 T N) m 1 + pdiv (gTurn2 T N 1) (T 1) else gOf (gTurn2 T N) m w := by
    intro m hm hm2 w hw hw2
    unfold gTurns
    rw [gOf_k (by omega), gOf_k (by omega), k31 m hm hm2 w hw hw2]
    by_cases hc : w = 1
    · rw [if_pos hc, if_pos (by omega)]
    · rw [if_neg hc, if_neg (by omega)]
  have hcell : ∀ k, k < 64 ∨ 108 ≤ k → k ≠ 1 → k ≠ 193 → gTurns T N k = gTurn2 T N k := by
    intro k hk hk1 hk2
    unfold gTurns
    rw [up1_k hk2, up1_k hk1, k32 k hk]
  refine ⟨⟨fun m hm hm2 => ?_, ?_, ?_⟩, ?_, fun k hk hk1 hk2 hk3 hk4 => ?_⟩
  · have h1 := hM2.1 m hm hm2
    rw [hgo m hm hm2 0 (by omega) (by omega), hgo m hm hm2 1 (by omega) (by omega), hgo m hm hm2 2 (by omega) (by omega), if_neg (by omega), if_pos rfl, if_neg (by omega)]
    refine ⟨h1.1, by omega, h1.2.2.1, fun t ht ht2 => ?_⟩
    rw [hgo m hm hm2 (5 + t) (by omega) (by omega), if_neg (by omega)]
    exact h1.2.2.2 t ht ht2
  · unfold gTurns
    rw [up1_k (by omega), up1_s, c1, hd]
    omega
  · unfold gTurns
    rw [gTot_k (by omega) _ (fun j hj => by omega), gTot_1, k33]
    have h5 := hM2.2.2
    have h6 : ((T 1).toNat : Int) = T 1 := Int.toNat_of_nonneg hT1.1
    rw [h6, Int.mul_comm (T 1)]
    omega
  · rw [hcell 2 (by omega) (by omega) (by omega)]
    unfold gTurn2
    rw [up1_s, prem_nn (by omega) (by omega) (by omega) (by omega)]
    exact ⟨Int.emod_nonneg _ (by omega), Int.emod_lt_of_pos _ (by omega)⟩
  · rw [hcell k hk hk1 hk4]
    unfold gTurn2
    rw [up1_k hk2]
    unfold gTurn1
    split
    · rw [gFresh_o (by omega)]
      unfold gChest
      rw [up1_k (by omega), up1_k hk1, up1_k (by omega)]
    · rfl
theorem gWhy_cg {T N : Int → Int} {m l : Int} (h : gWhy T N m l = 0) : 0 ≤ gTo T N m l ∧ ¬ (0 < gS T m (gTo T N m l) 1 ∧ gOf N m (5 + (gTo T N m l)) = 0) := by
  have h0 := gWhy0 h
  refine ⟨h0, fun z => ?_⟩
  unfold gWhy at h
  rw [if_neg (by omega), if_pos z] at h
  omega
/-- the steps of a round, in their bounds -/
theorem gRa_ok {T N : Int → Int} (hT : TWf T) (hN : NWf T N) : MWf T (gRa T N) ∧ (∀ k, k < 64 ∨ 108 ≤ k → k ≠ 1 → k ≠ 189 → gRa T N k = gWrites N (gRw T N) (gRp T N) (gRb T N) k) ∧ ∀ m, 0 ≤ m → m < T 1 → pand (pshr (gRb T N) m) 1 = 1 → 0 ≤ gTo T (gRa T N) m (gRw T N) ∧ ¬ (0 < gS T m (gTo T (gRa T N) m (gRw T N)) 1 ∧ gOf (gRa T N) m (5 + (gTo T (gRa T N) m (gRw T N))) = 0) := by
  have hT1 := hT.2.1
  have hT0 := hT.1
  have hb := gBest_ok hT hN
  have hP : ∀ m, 0 ≤ m → m < T 1 → 0 ≤ gRP T N m ∧ gRP T N m ≤ gOf N m 1 := by
    intro m hm hm2
    have h1 := gPaid_bd (P := fun _ => 0) hT hN hb.2 m hm hm2
    have h2 := gBid_rng hN hm hm2
    exact ⟨h1.1, by unfold gRP gRw gRp; omega⟩
  have h := gR1_ok (w := gRw T N) (pr := gRp T N) (b := gRb T N) hT (wn_wm hN) hP (T 1).toNat (by omega)
  have e : upto (gPayF (gRP T N)) (T 1).toNat (gWrites N (gRw T N) (gRp T N) (gRb T N)) = gRa T N := rfl
  rw [e] at h
  refine ⟨h.1, fun k hk hk1 hk2 => h.2.2 k hk1 hk2 hk, fun m hm hm2 hbit => ?_⟩
  have hbu := (gByU (T := T) (N := N) (w := gBest T N) (T 1).toNat (by omega)).2 m hm (by omega)
  have eb : upto (gByF T N (gBest T N)) (T 1).toNat 0 = gRb T N := rfl
  rw [eb] at hbu
  have hw := hbu.mp hbit
  have hwo := gWant_ok (T := T) (N := N) (m := m) (by omega)
  rw [hw.2.2] at hwo
  have hwy : gWhy T N m (gRw T N) = 0 := by
    rcases hwo with z | z
    · exact absurd z hw.2.1
    · exact z.2.2
  have hcg := gWhy_cg hwy
  have hwr : 0 ≤ gRw T N ∧ gRw T N < T 0 := by
    rcases hb.1 with z | z
    · exact absurd z hw.2.1
    · exact z
  have hg := gTo_rng hT (wn_wm hN) hm hm2 hwr.1 (show gRw T N < 4 by omega)
  have e0 : gTo T (gRa T N) m (gRw T N) = gTo T N m (gRw T N) := by
    unfold gTo
    rw [h.2.1 m hm hm2 0 (by omega) (by omega), if_neg (by omega)]
  rw [e0, h.2.1 m hm hm2 _ (by omega) (by omega), if_neg (by omega)]
  exact hcg
def gRW (T N : Int → Int) : Int → Int := gWrites N (gRw T N) (gRp T N) (gRb T N)
theorem gRs_ok {T N : Int → Int} (hT : TWf T) (hN : NWf T N) (h60 : N 3 < 60) : MWf T (gRs T N) ∧ (∀ k, k < 64 ∨ 108 ≤ k → k ≠ 1 → k ≠ 189 → k ≠ 191 → k ≠ 194 → gRs T N k = if gRw T N = -1 then gRW T N k else gSay0 (gRW T N) (gRw T N) k) := by
  have ha := gRa_ok hT hN
  have hb := gBest_ok hT hN
  have hT0 := hT.1
  have e3 : gRa T N 3 = gRW T N 3 := ha.2.1 3 (by omega) (by omega) (by omega)
  have e4 : gRW T N 3 = N 3 := gWrites_lo (by omega)
  have hN3 := hN.1
  unfold gRs
  by_cases hc : gRw T N = -1
  · rw [if_pos hc]
    refine ⟨wm_out hT ha.1 (by omega) (by omega), fun k hk hk1 hk2 hk3 hk4 => ?_⟩
    rw [if_pos hc, up1_k hk4]
    exact ha.2.1 k hk hk1 hk2
  · rw [if_neg hc]
    have hwr : 0 ≤ gRw T N ∧ gRw T N < T 0 := by
      rcases hb.1 with z | z
      · exact absurd z hc
      · exact z
    have hs := wm_says (l := gRw T N) (b := gRb T N) hT ha.1 hwr.1 hwr.2 (by omega) ha.2.2
    refine ⟨hs.1, fun k hk hk1 hk2 hk3 hk4 => ?_⟩
    rw [if_neg hc, hs.2 k hk hk1 hk3]
    unfold gSay0
    rw [e3]
    unfold up1
    split
    · rfl
    · split
      · rfl
      · exact ha.2.1 k hk hk1 hk2
theorem gRound_ok {T N : Int → Int} (hT : TWf T) (hN : NWf T N) (h60 : N 3 < 60) : NWf T (gRound T N) ∧ gRound T N 3 = N 3 + (if gRw T N = -1 then 0 else 1) := by
  have hs := gRs_ok hT hN h60
  have hb := gBest_ok hT hN
  have hT1 := hT.2.1
  have hN3 := hN.1
  have hN2 := hN.2.2.1
  have hN108 := hN.2.2.2.1
  have w3 : gRW T N 3 = N 3 := gWrites_lo (by omega)
  have s3 : gRs T N 3 = N 3 + (if gRw T N = -1 then 0 else 1) := by
    rw [hs.2 3 (by omega) (by omega) (by omega) (by omega) (by omega)]
    split
    · rw [w3]; omega
    · unfold gSay0; rw [up1_s, w3]
  have s2 : gRs T N 2 = N 2 := by
    rw [hs.2 2 (by omega) (by omega) (by omega) (by omega) (by omega)]
    have w2 : gRW T N 2 = N 2 := gWrites_lo (by omega)
    split
    · exact w2
    · unfold gSay0; rw [up1_k (by omega), up1_k (by omega)]; exact w2
  have s108 : 0 ≤ gRs T N 108 ∧ gRs T N 108 ≤ 20 := by
    have w108 : gRW T N 108 = w32 (N 108 + (if N 108 < 20 then 1 else 0)) := by
      unfold gRW gWrites
      rw [if_neg (by omega), if_neg (by omega), if_neg (by omega), if_neg (by omega), if_neg (by omega), if_pos rfl]
    have w108b : 0 ≤ gRW T N 108 ∧ gRW T N 108 ≤ 20 := by
      rw [w108]
      split
      · rw [w32_id (by omega) (by omega)]; omega
      · rw [w32_id (by omega) (by omega)]; omega
    rw [hs.2 108 (by omega) (by omega) (by omega) (by omega) (by omega)]
    split
    · exact w108b
    · unfold gSay0; rw [up1_k (by omega), up1_k (by omega)]; exact w108b
  have sl : ∀ k, 0 ≤ k → k < gRs T N 3 → 0 ≤ gRs T N (4 + k) ∧ gRs T N (4 + k) < T 0 := by
    intro k hk hk2
    rw [s3] at hk2
    have hk60 : k < 60 := by split at hk2 <;> omega
    rw [hs.2 (4 + k) (by omega) (by omega) (by omega) (by omega) (by omega)]
    have wk : gRW T N (4 + k) = N (4 + k) := gWrites_lo (by omega)
    by_cases hc : gRw T N = -1
    · rw [if_pos hc] at hk2 ⊢
      rw [wk]
      exact hN.2.1 k hk (by omega)
    · rw [if_neg hc] at hk2 ⊢
      have hwr : 0 ≤ gRw T N ∧ gRw T N < T 0 := by
        rcases hb.1 with z | z
        · exact absurd z hc
        · exact z
      unfold gSay0
      rw [up1_k (by omega), w3]
      by_cases hk3 : k = N 3
      · rw [hk3, up1_s]; exact hwr
      · rw [up1_k (by omega), wk]; exact hN.2.1 k hk (by omega)
  have ho : ∀ k, k ≠ 0 → gRo T N k = gRs T N k := fun k hk => up1_k hk
  have hMo : MWf T (gRo T N) := wm_out hT hs.1 (by omega) (by omega)
  have fin : ∀ N' : Int → Int, MWf T N' → (0 ≤ N' 2 ∧ (0 < T 1 → N' 2 < T 1)) → (∀ k, 3 ≤ k → k < 64 ∨ k = 108 → N' k = gRs T N k) → NWf T N' ∧ N' 3 = N 3 + (if gRw T N = -1 then 0 else 1) := by
    intro N' hM hN2' he
    have e3 := he 3 (by omega) (by omega)
    refine ⟨⟨?_, fun k hk hk2 => ?_, hN2', ?_, hM.1, hM.2.1, hM.2.2⟩, by rw [e3, s3]⟩
    · rw [e3, s3]; split <;> omega
    · have hk60 : k < 60 := by rw [e3, s3] at hk2; split at hk2 <;> omega
      rw [e3] at hk2
      rw [he (4 + k) (by omega) (by omega)]
      exact sl k hk hk2
    · rw [he 108 (by omega) (by omega)]; exact s108
  unfold gRound
  by_cases hc : 0 < T 1 ∧ prem (gRo T N 0) (T 2) = 0
  · rw [if_pos hc]
    have ht := gTurns_ok hT hMo (by rw [ho 2 (by omega), s2]; exact ⟨hN2.1, hN2.2 hc.1⟩)
    exact fin _ ht.1 ⟨ht.2.1.1, fun _ => ht.2.1.2⟩ (fun k hk hk2 => by rw [ht.2.2 k (by omega) (by omega) (by omega) (by omega) (by omega)]; exact ho k (by omega))
  · rw [if_neg hc]
    exact fin _ hMo (by rw [ho 2 (by omega), s2]; exact hN2) (fun k hk hk2 => ho k (by omega))
theorem S_rounds2 {nx : Nat} {h r : PF} {s : Int → Int} {Q : PO → PY → Nat → PC → Prop} (hW : WFr r) (hT : TWf (h 179)) (hN : NWf (h 179) (h 180)) (h60 : h 180 3 < 60) (hP : ∀ m, 0 ≤ m → m < h 179 1 → h 184 m = gRP (h 179) (h 180) m) (K : Q (Sum.inl (some (pI (if gRw (h 179) (h 180) = -1 then 0 else 1)))) LY nx (frow h 180 (gRound (h 179) (h 180)), r, s)) : Wp 178 17 [some (pR 178), some (pI (gRw (h 179) (h 180))), some (pI (gRp (h 179) (h 180))), none, none] [] LY nx (h, r, s) Q := by
  have hT0 := hT.1
  have hT1 := hT.2.1
  have hT2 := hT.2.2.1
  have hN3 := hN.1
  have hN2 := hN.2.2.1
  have hb := gBest_ok hT hN
  have ha := gRa_ok hT hN
  have hsk := gRs_ok hT hN h60
  have hPb : ∀ m, 0 ≤ m → m < h 179 1 → 0 ≤ gRP (h 179) (h 180) m ∧ gRP (h 179) (h 180) m ≤ gOf (h 180) m 1 := by
    intro m hm hm2
    have h1 := gPaid_bd (P := fun _ => 0) hT hN hb.2 m hm hm2
    have h2 := gBid_rng hN hm hm2
    exact ⟨h1.1, by unfold gRP gRw gRp; omega⟩
  simp (disch := first | assumption | omega) only [st_X8_rounds_0, st_X8_rounds_1, ↓if_pos, ↓if_neg, if_pos, if_neg, ↓reduceIte, true_and, and_true, false_and, and_false, true_or, or_true, false_or, or_false, w32_id, Kv, Kn, fup_s, fup_a, fup_k, fup_fup, Int.reduceAdd, Int.reduceSub, Int.reduceMul, Int.reduceNeg]
  refine loopL (Inv := fun i L => L = [some (pR 178), some (pI (gRw (h 179) (h 180))), some (pI (gRp (h 179) (h 180))), some (pI (upto (gByF (h 179) (h 180) (gRw (h 179) (h 180))) i.toNat 0)), some (pI i)]) (a := 0) (n := h 179 1) (by omega) ?_ ?_ _ rfl
  · rintro i L hi hi2 rfl hK
    rw [upto_s hi] at hK
    generalize upto (gByF (h 179) (h 180) (gRw (h 179) (h 180))) i.toNat 0 = bb at hK ⊢
    unfold gByF at hK
    rw [sh_X8_rounds_22]
    by_cases hw : gRw (h 179) (h 180) = -1
    · rw [if_neg (fun z => z.1 hw)] at hK
      simp (disch := first | assumption | omega) only [st_X8_rounds_0, st_X8_rounds_1, ↓if_pos, ↓if_neg, if_pos, if_neg, ↓reduceIte, true_and, and_true, false_and, and_false, true_or, or_true, false_or, or_false, w32_id, Kv, Kn, fup_s, fup_a, fup_k, fup_fup, Int.reduceAdd, Int.reduceSub, Int.reduceMul, Int.reduceNeg, S_wanted]
      exact hK _ rfl
    · by_cases hv : gWant (h 179) (h 180) i = gRw (h 179) (h 180)
      · rw [if_pos ⟨hw, hv⟩] at hK
        simp (disch := first | assumption | omega) only [st_X8_rounds_0, st_X8_rounds_1, ↓if_pos, ↓if_neg, if_pos, if_neg, ↓reduceIte, true_and, and_true, false_and, and_false, true_or, or_true, false_or, or_false, w32_id, Kv, Kn, fup_s, fup_a, fup_k, fup_fup, Int.reduceAdd, Int.reduceSub, Int.reduceMul, Int.reduceNeg, S_wanted]
        exact hK _ rfl
      · rw [if_neg (fun z => hv z.2)] at hK
        simp (disch := first | assumption | omega) only [st_X8_rounds_0, st_X8_rounds_1, ↓if_pos, ↓if_neg, if_pos, if_neg, ↓reduceIte, true_and, and_true, false_and, and_false, true_or, or_true, false_or, or_false, w32_id, Kv, Kn, fup_s, fup_a, fup_k, fup_fup, Int.reduceAdd, Int.reduceSub, Int.reduceMul, Int.reduceNeg, S_wanted]
        exact hK _ rfl
  · rintro L rfl
    have eb : upto (gByF (h 179) (h 180) (gRw (h 179) (h 180))) (h 179 1).toNat 0 = gRb (h 179) (h 180) := rfl
    rw [eb, sh_X8_rounds_22]
    simp (disch := first | assumption | omega) only [st_X8_rounds_0, st_X8_rounds_1, ↓if_pos, ↓if_neg, if_pos, if_neg, ↓reduceIte, true_and, and_true, false_and, and_false, true_or, or_true, false_or, or_false, w32_id, Kv, Kn, fup_s, fup_a, fup_k, fup_fup, Int.reduceAdd, Int.reduceSub, Int.reduceMul, Int.reduceNeg, S_writes]
    have hr1 := fun n hn => gR1_ok (w := gRw (h 179) (h 180)) (pr := gRp (h 179) (h 180)) (b := gRb (h 179) (h 180)) (P := gRP (h 179) (h 180)) hT (wn_wm hN) hPb n hn
    refine loopW (Inv := fun i L H R => L = [some (pR 178), some (pI (gRw (h 179) (h 180))), some (pI (gRp (h 179) (h 180))), some (pI (gRb (h 179) (h 180))), some (pI i)] ∧ H = frow h 180 (upto (gPayF (gRP (h 179) (h 180))) i.toNat (gWrites (h 180) (gRw (h 179) (h 180)) (gRp (h 179) (h 180)) (gRb (h 179) (h 180)))) ∧ R = r) (a := 0) (n := h 179 1) (by omega) ?_ ?_ _ _ _ ⟨rfl, rfl, rfl⟩
    · rintro i L H R hi hi2 ⟨rfl, rfl, rfl⟩ hK
      have hri := hr1 i.toNat (by omega)
      have hMi := wm_ok hri.1 hi hi2
      have hM1 := hMi.2.1
      have hMc := hMi.2.2.2
      have hpi := hP i hi hi2
      have hpb := hPb i hi hi2
      have hci := wm_coins (wn_wm hN) hi hi2
      have hK2 := hK _ _ _ ⟨rfl, by rw [upto_s hi], rfl⟩
      clear hK
      generalize upto (gPayF (gRP (h 179) (h 180))) i.toNat (gWrites (h 180) (gRw (h 179) (h 180)) (gRp (h 179) (h 180)) (gRb (h 179) (h 180))) = Ni at *
      rw [sh_X8_rounds_75]
      simp (disch := first | assumption | omega | (simp (disch := omega) only [frow_r, frow_s]; first | assumption | omega)) only [st_X8_rounds_0, st_X8_rounds_1, ↓if_pos, ↓if_neg, if_pos, if_neg, ↓reduceIte, true_and, and_true, false_and, and_false, true_or, or_true, false_or, or_false, w32_id, Kv, Kn, fup_s, fup_a, fup_k, fup_fup, Int.reduceAdd, Int.reduceSub, Int.reduceMul, Int.reduceNeg, frow_r, frow_s, frow_rk, frow_sk, fup_frow, gOf_s, gOf_k, up1_s, up1_k, S_intoChest, hpi]
      exact hK2
    · rintro L H R ⟨rfl, rfl, rfl⟩
      have ea : upto (gPayF (gRP (h 179) (h 180))) (h 179 1).toNat (gWrites (h 180) (gRw (h 179) (h 180)) (gRp (h 179) (h 180)) (gRb (h 179) (h 180))) = gRa (h 179) (h 180) := rfl
      rw [ea, sh_X8_rounds_75]
      have main : Wp 178 132 [some (pR 178), some (pI (gRw (h 179) (h 180))), some (pI (gRp (h 179) (h 180))), some (pI (gRb (h 179) (h 180))), some (pI (h 179 1))] [] LY nx (frow h 180 (gRs (h 179) (h 180)), R, s) Q := by
        simp (disch := first | assumption | omega | (simp (disch := omega) only [frow_r, frow_s]; first | assumption | omega)) only [st_X8_rounds_0, st_X8_rounds_1, ↓if_pos, ↓if_neg, if_pos, if_neg, ↓reduceIte, true_and, and_true, false_and, and_false, true_or, or_true, false_or, or_false, w32_id, Kv, Kn, fup_s, fup_a, fup_k, fup_fup, Int.reduceAdd, Int.reduceSub, Int.reduceMul, Int.reduceNeg, frow_r, frow_s, frow_rk, frow_sk, fup_frow, gOf_s, gOf_k, up1_s, up1_k]
        have eo : up1 (gRs (h 179) (h 180)) 0 (w32 (gRs (h 179) (h 180) 0 + 1)) = gRo (h 179) (h 180) := rfl
        have eo0 : w32 (gRs (h 179) (h 180) 0 + 1) = gRo (h 179) (h 180) 0 := up1_s.symm
        have o2 : gRo (h 179) (h 180) 2 = h 180 2 := by
          have e1 : gRo (h 179) (h 180) 2 = gRs (h 179) (h 180) 2 := up1_k (by omega)
          rw [e1, hsk.2 2 (by omega) (by omega) (by omega) (by omega) (by omega)]
          have w2 : gRW (h 179) (h 180) 2 = h 180 2 := gWrites_lo (by omega)
          have w3 : gRW (h 179) (h 180) 3 = h 180 3 := gWrites_lo (by omega)
          split
          · exact w2
          · unfold gSay0; rw [up1_k (by omega), up1_k (by omega)]; exact w2
        have hMo : MWf (h 179) (gRo (h 179) (h 180)) := wm_out hT hsk.1 (by omega) (by omega)
        rw [eo, eo0]
        obtain ⟨v, hv⟩ : ∃ v : Int, v = (if gRw (h 179) (h 180) = -1 then 0 else 1) := ⟨_, rfl⟩
        rw [← hv] at K
        unfold gRound at K
        by_cases hc1 : 0 < h 179 1
        · by_cases hc2 : prem (gRo (h 179) (h 180) 0) (h 179 2) = 0
          · rw [if_pos ⟨hc1, hc2⟩] at K
            have h2t : 0 ≤ gRo (h 179) (h 180) 2 ∧ gRo (h 179) (h 180) 2 < h 179 1 := by rw [o2]; exact ⟨hN2.1, hN2.2 hc1⟩
            by_cases hw : gRw (h 179) (h 180) = -1
            · rw [if_pos hw] at hv; rw [hv] at K
              simp (disch := first | assumption | omega | (simp (disch := omega) only [frow_r, frow_s]; first | assumption | omega)) only [st_X8_rounds_0, st_X8_rounds_1, ↓if_pos, ↓if_neg, if_pos, if_neg, ↓reduceIte, true_and, and_true, false_and, and_false, true_or, or_true, false_or, or_false, w32_id, Kv, Kn, fup_s, fup_a, fup_k, fup_fup, Int.reduceAdd, Int.reduceSub, Int.reduceMul, Int.reduceNeg, frow_r, frow_s, frow_rk, frow_sk, fup_frow, gOf_s, gOf_k, up1_s, up1_k, S_turns]
              exact K
            · rw [if_neg hw] at hv; rw [hv] at K
              simp (disch := first | assumption | omega | (simp (disch := omega) only [frow_r, frow_s]; first | assumption | omega)) only [st_X8_rounds_0, st_X8_rounds_1, ↓if_pos, ↓if_neg, if_pos, if_neg, ↓reduceIte, true_and, and_true, false_and, and_false, true_or, or_true, false_or, or_false, w32_id, Kv, Kn, fup_s, fup_a, fup_k, fup_fup, Int.reduceAdd, Int.reduceSub, Int.reduceMul, Int.reduceNeg, frow_r, frow_s, frow_rk, frow_sk, fup_frow, gOf_s, gOf_k, up1_s, up1_k, S_turns]
              exact K
          · rw [if_neg (fun z => hc2 z.2)] at K
            by_cases hw : gRw (h 179) (h 180) = -1
            · rw [if_pos hw] at hv; rw [hv] at K
              simp (disch := first | assumption | omega | (simp (disch := omega) only [frow_r, frow_s]; first | assumption | omega)) only [st_X8_rounds_0, st_X8_rounds_1, ↓if_pos, ↓if_neg, if_pos, if_neg, ↓reduceIte, true_and, and_true, false_and, and_false, true_or, or_true, false_or, or_false, w32_id, Kv, Kn, fup_s, fup_a, fup_k, fup_fup, Int.reduceAdd, Int.reduceSub, Int.reduceMul, Int.reduceNeg, frow_r, frow_s, frow_rk, frow_sk, fup_frow, gOf_s, gOf_k, up1_s, up1_k]
              exact K
            · rw [if_neg hw] at hv; rw [hv] at K
              simp (disch := first | assumption | omega | (simp (disch := omega) only [frow_r, frow_s]; first | assumption | omega)) only [st_X8_rounds_0, st_X8_rounds_1, ↓if_pos, ↓if_neg, if_pos, if_neg, ↓reduceIte, true_and, and_true, false_and, and_false, true_or, or_true, false_or, or_false, w32_id, Kv, Kn, fup_s, fup_a, fup_k, fup_fup, Int.reduceAdd, Int.reduceSub, Int.reduceMul, Int.reduceNeg, frow_r, frow_s, frow_rk, frow_sk, fup_frow, gOf_s, gOf_k, up1_s, up1_k]
              exact K
        · rw [if_neg (fun z => hc1 z.1)] at K
          by_cases hw : gRw (h 179) (h 180) = -1
          · rw [if_pos hw] at hv; rw [hv] at K
            simp (disch := first | assumption | omega | (simp (disch := omega) only [frow_r, frow_s]; first | assumption | omega)) only [st_X8_rounds_0, st_X8_rounds_1, ↓if_pos, ↓if_neg, if_pos, if_neg, ↓reduceIte, true_and, and_true, false_and, and_false, true_or, or_true, false_or, or_false, w32_id, Kv, Kn, fup_s, fup_a, fup_k, fup_fup, Int.reduceAdd, Int.reduceSub, Int.reduceMul, Int.reduceNeg, frow_r, frow_s, frow_rk, frow_sk, fup_frow, gOf_s, gOf_k, up1_s, up1_k]
            exact K
          · rw [if_neg hw] at hv; rw [hv] at K
            simp (disch := first | assumption | omega | (simp (disch := omega) only [frow_r, frow_s]; first | assumption | omega)) only [st_X8_rounds_0, st_X8_rounds_1, ↓if_pos, ↓if_neg, if_pos, if_neg, ↓reduceIte, true_and, and_true, false_and, and_false, true_or, or_true, false_or, or_false, w32_id, Kv, Kn, fup_s, fup_a, fup_k, fup_fup, Int.reduceAdd, Int.reduceSub, Int.reduceMul, Int.reduceNeg, frow_r, frow_s, frow_rk, frow_sk, fup_frow, gOf_s, gOf_k, up1_s, up1_k]
            exact K
      by_cases hw : gRw (h 179) (h 180) = -1
      · have es : gRs (h 179) (h 180) = up1 (gRa (h 179) (h 180)) 194 (w32 (gRa (h 179) (h 180) 194 + 1)) := by unfold gRs; rw [if_pos hw]
        rw [es] at main
        simp (disch := first | assumption | omega | (simp (disch := omega) only [frow_r, frow_s]; first | assumption | omega)) only [st_X8_rounds_0, st_X8_rounds_1, ↓if_pos, ↓if_neg, if_pos, if_neg, ↓reduceIte, true_and, and_true, false_and, and_false, true_or, or_true, false_or, or_false, w32_id, Kv, Kn, fup_s, fup_a, fup_k, fup_fup, Int.reduceAdd, Int.reduceSub, Int.reduceMul, Int.reduceNeg, frow_r, frow_s, frow_rk, frow_sk, fup_frow, gOf_s, gOf_k, up1_s, up1_k] at main ⊢
        exact main
      · have es : gRs (h 179) (h 180) = gSays (h 179) (gRa (h 179) (h 180)) (gRw (h 179) (h 180)) (gRb (h 179) (h 180)) := by unfold gRs; rw [if_neg hw]
        rw [es] at main
        have hwr : 0 ≤ gRw (h 179) (h 180) ∧ gRw (h 179) (h 180) < h 179 0 := by
          rcases hb.1 with z | z
          · exact absurd z hw
          · exact z
        have e3 : gRa (h 179) (h 180) 3 = h 180 3 := by rw [ha.2.1 3 (by omega) (by omega) (by omega)]; exact gWrites_lo (by omega)
        simp (disch := first | assumption | omega | (simp (disch := omega) only [frow_r, frow_s]; first | assumption | omega)) only [st_X8_rounds_0, st_X8_rounds_1, ↓if_pos, ↓if_neg, if_pos, if_neg, ↓reduceIte, true_and, and_true, false_and, and_false, true_or, or_true, false_or, or_false, w32_id, Kv, Kn, fup_s, fup_a, fup_k, fup_fup, Int.reduceAdd, Int.reduceSub, Int.reduceMul, Int.reduceNeg, frow_r, frow_s, frow_rk, frow_sk, fup_frow, gOf_s, gOf_k, up1_s, up1_k]
        refine (S_says hW hT ha.1 hwr.1 hwr.2 (by omega) ha.2.2).mpr ?_
        simp (disch := first | assumption | omega | (simp (disch := omega) only [frow_r, frow_s]; first | assumption | omega)) only [st_X8_rounds_0, st_X8_rounds_1, ↓if_pos, ↓if_neg, if_pos, if_neg, ↓reduceIte, true_and, and_true, false_and, and_false, true_or, or_true, false_or, or_false, w32_id, Kv, Kn, fup_s, fup_a, fup_k, fup_fup, Int.reduceAdd, Int.reduceSub, Int.reduceMul, Int.reduceNeg, frow_r, frow_s, frow_rk, frow_sk, fup_frow, gOf_s, gOf_k, up1_s, up1_k] at main ⊢
        exact main
