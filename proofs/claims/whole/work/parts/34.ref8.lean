theorem prem_nn {x y : Int} (hx : 0 ≤ x) (hx2 : x < 2147483648) (hy : 0 < y) (hy2 : y < 2147483648) : prem x y = x % y := by
  have h1 : 0 ≤ x / y := Int.ediv_nonneg hx (by omega)
  have h2 : x / y ≤ x := Int.ediv_le_self y hx
  have h3 := Int.emod_nonneg x (show y ≠ 0 by omega)
  have h4 := Int.emod_lt_of_pos x hy
  have h5 := Int.mul_ediv_add_emod x y
  have e := pdiv_nn hx hx2 hy hy2
  unfold pdiv at e
  unfold prem
  rw [Int32.toInt_sub, Int32.toInt_mul, e, Int32.toInt_ofInt, Int32.toInt_ofInt]
  show w32 (w32 x - w32 (x / y * w32 y)) = x % y
  have h6 : x / y * y = x - x % y := by rw [Int.mul_comm]; omega
  rw [w32_id (by omega) hx2, w32_id (x := y) (by omega) hy2, h6, w32_id (x := x - x % y) (by omega) (by omega)]
  rw [show x - (x - x % y) = x % y from by omega]
  exact w32_id (by omega) (by omega)
theorem gTurn1_1 {T N : Int → Int} (hT : TWf T) (h : MWf T N) (h2 : 0 ≤ N 2 ∧ N 2 < T 1) : 0 ≤ gTurn1 T N 1 ∧ gTurn1 T N 1 ≤ 3996 := by
  have h3 := wm_turn1 hT h h2
  have h4 := wm_coins h3 h2.1 h2.2
  have h5 := h3.2.1
  omega
/-- the coins that are shared -/
theorem gTurn3_ok {T N : Int → Int} {s : Int} (hT : TWf T) (hm : ∀ m, 0 ≤ m → m < T 1 → 0 ≤ gOf N m 1 ∧ gOf N m 1 ≤ 3996) : ∀ n : Nat, (n : Int) ≤ T 1 → (∀ m, 0 ≤ m → m < T 1 → ∀ w, 0 ≤ w → w < 11 → gOf (upto (gTurnF s) n N) m w = if m < n ∧ w = 1 then gOf N m 1 + s else gOf N m w) ∧ (∀ k, k < 64 ∨ 108 ≤ k → upto (gTurnF s) n N k = N k) ∧ gTot (upto (gTurnF s) n N) (T 1).toNat = gTot N (T 1).toNat + n * s := by
  have hT1 := hT.2.1
  intro n
  induction n with
  | zero => exact fun _ => ⟨fun m hm hm2 w hw hw2 => by rw [if_neg (by omega)]; rfl, fun k hk => rfl, by show gTot N _ = gTot N _ + ((0 : Nat) : Int) * s; rw [show ((0 : Nat) : Int) = 0 from rfl, Int.zero_mul]; omega⟩
  | succ n ih =>
    intro hn
    obtain ⟨i1, i2, i3⟩ := ih (by omega)
    have e : upto (gTurnF s) (n + 1) N = up1 (upto (gTurnF s) n N) (64 + 11 * n + 1) (gOf (upto (gTurnF s) n N) n 1 + s) := rfl
    have en : gOf (upto (gTurnF s) n N) n 1 = gOf N n 1 := by rw [i1 n (by omega) (by omega) 1 (by omega) (by omega), if_neg (by omega)]
    rw [e, en]
    refine ⟨fun m hm hm2 w hw hw2 => ?_, fun k hk => ?_, ?_⟩
    · by_cases hc : m = n ∧ w = 1
      · rw [hc.1, hc.2, gOf_s, if_pos (by omega)]
      · rw [gOf_k (by omega), i1 m hm hm2 w hw hw2]
        by_cases hd : m < n ∧ w = 1
        · rw [if_pos hd, if_pos (by omega)]
        · rw [if_neg hd, if_neg (by omega)]
    · rw [up1_k (by omega)]; exact i2 k hk
    · rw [gTot_c (by omega), if_pos (by omega), i3, en, show ((n + 1 : Nat) : Int) = n + 1 from by omega, Int.add_mul]
      omega
theorem S_turns {N : Int → Int} {nx : Nat} {h r : PF} {s : Int → Int} {Q : PO → PY → Nat → PC → Prop} (hW : WFr r) (hT : TWf (h 179)) (hM : MWf (h 179) N) (h2 : 0 ≤ N 2 ∧ N 2 < h 179 1) : Wp 177 0 [some (pR 178), none, none, none] [] LY nx (frow h 180 N, r, s) Q ↔ Q (Sum.inl none) LY nx (frow h 180 (gTurns (h 179) N), r, s) := by
  refine Wp.eq ?_
  have hT1 := hT.2.1
  have hT3 := hT.2.2.2.1
  have hMo := wm_ok hM h2.1 h2.2
  have hM1 := hMo.2.1
  have hMc := hMo.2.2.2
  have hM1t := wm_turn1 hT hM h2
  have ht1 := gTurn1_1 hT hM h2
  have e21 : gTurn2 (h 179) N 1 = gTurn1 (h 179) N 1 := by unfold gTurn2; exact up1_k (by omega)
  have hd := pdiv_nn (x := gTurn1 (h 179) N 1) (y := h 179 1) (by omega) (by omega) (by omega) (by omega)
  have hs1 : 0 ≤ gTurn1 (h 179) N 1 / h 179 1 := Int.ediv_nonneg ht1.1 (by omega)
  have hs2 : gTurn1 (h 179) N 1 / h 179 1 ≤ gTurn1 (h 179) N 1 := Int.ediv_le_self _ ht1.1
  have hs3 : gTurn1 (h 179) N 1 / h 179 1 * h 179 1 ≤ gTurn1 (h 179) N 1 := Int.ediv_mul_le _ (by omega)
  have hs4 : 0 ≤ gTurn1 (h 179) N 1 / h 179 1 * h 179 1 := Int.mul_nonneg hs1 (by omega)
  have main : Wp 177 71 [some (pR 178), some (pI (N 2)), some (pI (pdiv (gTurn1 (h 179) N 1) (h 179 1))), some (pI 0)] [] LY nx (frow h 180 (up1 (gTurn1 (h 179) N) 2 (prem (N 2 + 1) (h 179 1))), r, s) (fun o1 l1 n1 h1 => o1 = Sum.inl none ∧ l1 = LY ∧ n1 = nx ∧ h1 = (frow h 180 (gTurns (h 179) N), r, s)) := by
    have e2 : up1 (gTurn1 (h 179) N) 2 (prem (N 2 + 1) (h 179 1)) = gTurn2 (h 179) N := rfl
    rw [e2]
    have hmc : ∀ m, 0 ≤ m → m < h 179 1 → 0 ≤ gOf (gTurn2 (h 179) N) m 1 ∧ gOf (gTurn2 (h 179) N) m 1 ≤ 3996 := by
      intro m hm hm2
      unfold gTurn2
      rw [gOf_k (by omega)]
      exact ⟨(hM1t.1 m hm hm2).2.1, (wm_coins hM1t hm hm2).1⟩
    have hd2 : pdiv (gTurn2 (h 179) N 1) (h 179 1) = gTurn1 (h 179) N 1 / h 179 1 := by rw [e21, hd]
    have hsh : pdiv (gTurn1 (h 179) N 1) (h 179 1) = gTurn1 (h 179) N 1 / h 179 1 := hd
    refine loopW (Inv := fun i L H R => L = [some (pR 178), some (pI (N 2)), some (pI (pdiv (gTurn2 (h 179) N 1) (h 179 1))), some (pI i)] ∧ H = frow h 180 (upto (gTurnF (pdiv (gTurn2 (h 179) N 1) (h 179 1))) i.toNat (gTurn2 (h 179) N)) ∧ R = r) (a := 0) (n := h 179 1) (by omega) ?_ ?_ _ _ _ ⟨by rw [e21], rfl, rfl⟩
    · rintro i L H R hi hi2 ⟨rfl, rfl, rfl⟩ hK
      have k1 := (gTurn3_ok (s := pdiv (gTurn2 (h 179) N 1) (h 179 1)) hT hmc i.toNat (by omega)).1 i hi hi2 1 (by omega) (by omega)
      rw [if_neg (by omega)] at k1
      have k2 := hmc i hi hi2
      rw [sh_X8_turns_71]
      simp (disch := first | assumption | omega | (simp (disch := omega) only [frow_r, frow_s]; first | assumption | omega)) only [st_X8_turns_0, st_X8_turns_1, ↓if_pos, ↓if_neg, if_pos, if_neg, ↓reduceIte, true_and, and_true, false_and, and_false, true_or, or_true, false_or, or_false, w32_id, Kv, Kn, fup_s, fup_a, fup_k, fup_fup, Int.reduceAdd, Int.reduceSub, Int.reduceMul, Int.reduceNeg, frow_r, frow_s, frow_rk, frow_sk, fup_frow, gOf_s, gOf_k, up1_s, up1_k, S_of, S_sets]
      refine hK _ _ _ ⟨rfl, ?_, rfl⟩
      rw [upto_s hi]
      rfl
    · rintro L H R ⟨rfl, rfl, rfl⟩
      have k3 := (gTurn3_ok (s := pdiv (gTurn2 (h 179) N 1) (h 179 1)) hT hmc (h 179 1).toNat (by omega)).2.1
      have e3 : upto (gTurnF (pdiv (gTurn2 (h 179) N 1) (h 179 1))) (h 179 1).toNat (gTurn2 (h 179) N) = gTurn3 (h 179) N := rfl
      rw [e3] at k3 ⊢
      have k4 := k3 1 (by omega)
      have hs5 : 0 ≤ pdiv (gTurn2 (h 179) N 1) (h 179 1) * h 179 1 ∧ pdiv (gTurn2 (h 179) N 1) (h 179 1) * h 179 1 ≤ gTurn1 (h 179) N 1 := by rw [hd2]; exact ⟨hs4, hs3⟩
      rw [sh_X8_turns_71]
      simp (disch := first | assumption | omega | (simp (disch := omega) only [frow_r, frow_s]; first | assumption | omega)) only [st_X8_turns_0, st_X8_turns_1, ↓if_pos, ↓if_neg, if_pos, if_neg, ↓reduceIte, true_and, and_true, false_and, and_false, true_or, or_true, false_or, or_false, w32_id, Kv, Kn, fup_s, fup_a, fup_k, fup_fup, Int.reduceAdd, Int.reduceSub, Int.reduceMul, Int.reduceNeg, frow_r, frow_s, frow_rk, frow_sk, fup_frow, gOf_s, gOf_k, up1_s, up1_k]
      all_goals first | rfl | (trace_state; done)
  simp (disch := first | assumption | omega | (simp (disch := omega) only [frow_r, frow_s]; first | assumption | omega)) only [st_X8_turns_0, st_X8_turns_1, ↓if_pos, ↓if_neg, if_pos, if_neg, ↓reduceIte, true_and, and_true, false_and, and_false, true_or, or_true, false_or, or_false, w32_id, Kv, Kn, fup_s, fup_a, fup_k, fup_fup, Int.reduceAdd, Int.reduceSub, Int.reduceMul, Int.reduceNeg, frow_r, frow_s, frow_rk, frow_sk, fup_frow, gOf_s, gOf_k, up1_s, up1_k, S_of]
  by_cases hc : h 179 3 ≤ gOf N (N 2) 1
  · have e1 : gTurn1 (h 179) N = gFresh (h 179) (gChest N (N 2) (h 179 3) 3) (N 2) := by unfold gTurn1; rw [if_pos hc]
    rw [e1] at main
    simp (disch := first | assumption | omega | (simp (disch := omega) only [frow_r, frow_s]; first | assumption | omega)) only [st_X8_turns_0, st_X8_turns_1, ↓if_pos, ↓if_neg, if_pos, if_neg, ↓reduceIte, true_and, and_true, false_and, and_false, true_or, or_true, false_or, or_false, w32_id, Kv, Kn, fup_s, fup_a, fup_k, fup_fup, Int.reduceAdd, Int.reduceSub, Int.reduceMul, Int.reduceNeg, frow_r, frow_s, frow_rk, frow_sk, fup_frow, gOf_s, gOf_k, up1_s, up1_k, S_intoChest, S_freshens]
    exact main
  · have e1 : gTurn1 (h 179) N = N := by unfold gTurn1; rw [if_neg hc]
    rw [e1] at main
    simp (disch := first | assumption | omega | (simp (disch := omega) only [frow_r, frow_s]; first | assumption | omega)) only [st_X8_turns_0, st_X8_turns_1, ↓if_pos, ↓if_neg, if_pos, if_neg, ↓reduceIte, true_and, and_true, false_and, and_false, true_or, or_true, false_or, or_false, w32_id, Kv, Kn, fup_s, fup_a, fup_k, fup_fup, Int.reduceAdd, Int.reduceSub, Int.reduceMul, Int.reduceNeg, frow_r, frow_s, frow_rk, frow_sk, fup_frow, gOf_s, gOf_k, up1_s, up1_k]
    exact main
