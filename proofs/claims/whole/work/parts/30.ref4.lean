theorem gSum_S {T N : Int → Int} {w pr : Int} {P : Int → Int} : ∀ n : Nat, (∀ m : Nat, m < n → P m = gPd T N w pr m) → (n : Int) ≤ T 1 → w ≠ -1 → gRoom T N w P n = upto (gSumF T N w) n 0 - upto (fun m a => a + gPd T N w pr m) n 0
  | 0, _, _, _ => rfl
  | n + 1, h, hn, hw => by
    have ih := gSum_S (T := T) (N := N) (w := w) (pr := pr) (P := P) n (fun m hm => h m (by omega)) (by omega) hw
    show gRoomF T N w P n (gRoom T N w P n) = gSumF T N w n (upto (gSumF T N w) n 0) - (upto (fun m a => a + gPd T N w pr m) n 0 + gPd T N w pr n)
    rw [ih]
    have hp := h n (by omega)
    unfold gRoomF gSumF
    rw [hp]
    by_cases hc : gWant T N n = w
    · rw [if_pos hc, if_pos hc]; omega
    · rw [if_neg hc, if_neg hc]
      have : gPd T N w pr n = 0 := by unfold gPd; rw [if_neg (fun z => hc z.2.2)]
      omega
theorem gSum_ge {T N : Int → Int} {w : Int} (hN : NWf T N) {m : Int} (hm : 0 ≤ m) (hw : gWant T N m = w) : ∀ n : Nat, m < n → (n : Int) ≤ T 1 → gBid T N m ≤ upto (gSumF T N w) n 0
  | 0, h, _ => by omega
  | n + 1, h, hn => by
    have h1 := (gSumU_rng (l := w) hN n (by omega)).1
    have h2 := gBid_rng (m := n) hN (by omega) (by omega)
    show gBid T N m ≤ upto (gSumF T N w) n 0 + (if gWant T N n = w then gBid T N n else 0)
    by_cases hmn : m = n
    · subst hmn
      rw [if_pos hw]
      omega
    · have ih := gSum_ge hN hm hw n (by omega) (by omega)
      split <;> omega
def LPd (T N : Int → Int) (w pr : Int) : Prop := (w = -1 ∧ pr = 0) ∨ (w ≠ -1 ∧ 0 < gSum T N w ∧ 0 ≤ pr ∧ pr ≤ gSum T N w)
theorem gPd_rng {T N : Int → Int} {w pr m : Int} (hT : TWf T) (hN : NWf T N) (hm : 0 ≤ m) (h : LPd T N w pr) : 0 ≤ gPd T N w pr m ∧ gPd T N w pr m ≤ 72 ∧ (m < T 1 → gPd T N w pr m ≤ gBid T N m) := by
  unfold gPd
  by_cases hc : m < T 1 ∧ w ≠ -1 ∧ gWant T N m = w
  · rw [if_pos hc]
    rcases h with h | h
    · exact absurd h.1 hc.2.1
    · have h1 := gBid_rng hN hm hc.1
      have h2 : 0 ≤ pr * gBid T N m := Int.mul_nonneg h.2.2.1 h1.1
      have h3 : pr * gBid T N m / gSum T N w ≤ gBid T N m := by
        have : pr * gBid T N m ≤ gBid T N m * gSum T N w := by
          rw [Int.mul_comm (gBid T N m)]
          exact Int.mul_le_mul_of_nonneg_right h.2.2.2 h1.1
        have h5 := Int.ediv_le_ediv h.2.1 this
        rwa [Int.mul_ediv_cancel _ (by omega)] at h5
      exact ⟨Int.ediv_nonneg h2 (by omega), by omega, fun _ => h3⟩
  · rw [if_neg hc]
    exact ⟨by omega, by omega, fun hl => (gBid_rng hN hm hl).1⟩
theorem gPd1_eq {T N : Int → Int} {w pr : Int} {P : Int → Int} : ∀ n : Nat, (upto (gPd1F T N w pr) n (P, pr)).2 = pr - upto (fun m a => a + gPd T N w pr m) n 0 ∧ (∀ m : Nat, m < n → (upto (gPd1F T N w pr) n (P, pr)).1 m = gPd T N w pr m)
  | 0 => ⟨by show pr = pr - 0; omega, fun m hm => by omega⟩
  | n + 1 => by
    have ih := gPd1_eq (T := T) (N := N) (w := w) (pr := pr) (P := P) n
    refine ⟨?_, fun m hm => ?_⟩
    · show (upto (gPd1F T N w pr) n (P, pr)).2 - gPd T N w pr n = pr - (upto (fun m a => a + gPd T N w pr m) n 0 + gPd T N w pr n)
      rw [ih.1]
      omega
    · show up1 (upto (gPd1F T N w pr) n (P, pr)).1 n (gPd T N w pr n) m = gPd T N w pr m
      by_cases hmn : m = n
      · subst hmn; exact up1_s
      · rw [up1_k (by omega)]; exact ih.2 m (by omega)
theorem gPdS_rng {T N : Int → Int} {w pr : Int} (hT : TWf T) (hN : NWf T N) (h : LPd T N w pr) (n : Nat) : 0 ≤ upto (fun m a => a + gPd T N w pr m) n 0 ∧ upto (fun m a => a + gPd T N w pr m) n 0 ≤ 72 * n := by
  refine upto_ind (P := fun k a => 0 ≤ a ∧ a ≤ 72 * (k : Int)) ⟨by omega, by omega⟩ n (fun k x hk hx => ?_)
  have h1 := gPd_rng (m := k) hT hN (by omega) h
  omega
/-- the coins beyond the last machine are none -/
theorem gPdS_stop {T N : Int → Int} {w pr : Int} : ∀ n : Nat, (T 1).toNat ≤ n → 0 ≤ T 1 → upto (fun m a => a + gPd T N w pr m) n 0 = upto (fun m a => a + gPd T N w pr m) (T 1).toNat 0
  | 0, h, h1 => by rw [show (T 1).toNat = 0 from by omega]
  | n + 1, h, h1 => by
    by_cases he : (T 1).toNat = n + 1
    · rw [he]
    · have ih := gPdS_stop (T := T) (N := N) (w := w) (pr := pr) n (by omega) h1
      show upto (fun m a => a + gPd T N w pr m) n 0 + gPd T N w pr n = _
      rw [ih]
      have : gPd T N w pr n = 0 := by unfold gPd; rw [if_neg (by omega)]
      omega
theorem gPd1_ok {T N : Int → Int} {w pr : Int} {P : Int → Int} (hT : TWf T) (hN : NWf T N) (h : LPd T N w pr) (hw : w ≠ -1) : POk T N w (upto (gPd1F T N w pr) 4 (P, pr)) := by
  have hT1 := hT.2.1
  have e := gPd1_eq (T := T) (N := N) (w := w) (pr := pr) (P := P) 4
  refine ⟨?_, fun m hm hm2 => ?_⟩
  · rw [e.1, gSum_S (pr := pr) _ (fun m hm => e.2 m (by omega)) (by omega) hw, gPdS_stop 4 (by omega) (by omega)]
    rcases h with h | h
    · exact absurd h.1 hw
    · have : upto (gSumF T N w) (T 1).toNat 0 = gSum T N w := rfl
      omega
  · have h1 := e.2 m.toNat (by omega)
    rw [Int.toNat_of_nonneg hm] at h1
    rw [h1]
    have := gPd_rng hT hN hm h
    omega
theorem gPasses_stop {T N : Int → Int} {w : Int} {p : (Int → Int) × Int} (h : p.2 ≤ 0) : ∀ n, gPasses T N w n p = p
  | 0 => rfl
  | n + 1 => by show (if p.2 ≤ 0 then p else gPasses T N w n (gPass T N w p)) = p; rw [if_pos h]
theorem gPasses_more {T N : Int → Int} {w : Int} (hN : NWf T N) : ∀ (n n2 : Nat) (p : (Int → Int) × Int), POk T N w p → p.2 ≤ n → p.2 ≤ n2 → gPasses T N w n p = gPasses T N w n2 p
  | 0, n2, p, _, h1, _ => by rw [gPasses_stop (by omega) n2]; rfl
  | n + 1, 0, p, _, _, h2 => by rw [gPasses_stop (by omega) (n + 1)]; rfl
  | n + 1, n2 + 1, p, h, h1, h2 => by
    show (if p.2 ≤ 0 then p else gPasses T N w n (gPass T N w p)) = (if p.2 ≤ 0 then p else gPasses T N w n2 (gPass T N w p))
    by_cases hc : p.2 ≤ 0
    · rw [if_pos hc, if_pos hc]
    · rw [if_neg hc, if_neg hc]
      have hl := gPass_lt hN (by omega) h
      exact gPasses_more hN n n2 _ hl.2.2 (by omega) (by omega)
theorem S_laysPaid {w pr : Int} {nx : Nat} {h r : PF} {s : Int → Int} {Q : PO → PY → Nat → PC → Prop} (hW : WFr r) (hT : TWf (h 179)) (hN : NWf (h 179) (h 180)) (hl : LPd (h 179) (h 180) w pr) : Wp 170 0 [some (pR 178), some (pI w), some (pI pr), none, none, none, none] [] LY nx (h, r, s) Q ↔ Q (Sum.inl none) LY nx (frow h 184 (gPaid (h 179) (h 180) w pr (h 184)), r, s) := by
  refine Wp.eq ?_
  have hT0 := hT.1
  have hT1 := hT.2.1
  have SW : ∀ (P : Int → Int) (m : Int) (Q : PO → PY → Nat → PC → Prop), 0 ≤ m → m < h 179 1 → (Wp 165 0 [some (pR 178), some (pI m), none, none] [] LY nx (frow h 184 P, r, s) Q ↔ Q (Sum.inl (some (pI (gWant (h 179) (h 180) m)))) LY nx (frow h 184 P, r, s)) := by
    intro P m Q h1 h2
    have := S_wanted (nx := nx) (h := frow h 184 P) (r := r) (s := s) (Q := Q) (m := m) hW (by simp (disch := omega) only [frow_r]; exact hT) (by simp (disch := omega) only [frow_r]; exact hN) h1 (by simp (disch := omega) only [frow_r]; exact h2)
    simp (disch := omega) only [frow_r] at this
    exact this
  have SB : ∀ (P : Int → Int) (m : Int) (Q : PO → PY → Nat → PC → Prop), 0 ≤ m → m < h 179 1 → (Wp 166 0 [some (pR 178), some (pI m), none, none] [] LY nx (frow h 184 P, r, s) Q ↔ Q (Sum.inl (some (pI (gBid (h 179) (h 180) m)))) LY nx (frow h 184 P, r, s)) := by
    intro P m Q h1 h2
    have := S_bidOf (nx := nx) (h := frow h 184 P) (r := r) (s := s) (Q := Q) (m := m) hW (by simp (disch := omega) only [frow_r]; exact hT) (by simp (disch := omega) only [frow_r]; exact hN) h1 (by simp (disch := omega) only [frow_r]; exact h2)
    simp (disch := omega) only [frow_r] at this
    exact this
  have hsr := gSumU_rng (l := w) hN (h 179 1).toNat (by omega)
  have hsr2 : 0 ≤ gSum (h 179) (h 180) w ∧ gSum (h 179) (h 180) w ≤ 288 := ⟨hsr.1, by have := hsr.2; unfold gSum; omega⟩
  have hpr : 0 ≤ pr ∧ pr ≤ 288 := by rcases hl with z | z <;> omega
  have main : ∀ al, (w ≠ -1 → al = gSum (h 179) (h 180) w) → Wp 170 21 [some (pR 178), some (pI w), some (pI pr), some (pI al), some (pI pr), some (pI 0), none] [] LY nx (h, r, s) (fun o1 l1 n1 h1 => o1 = Sum.inl none ∧ l1 = LY ∧ n1 = nx ∧ h1 = (frow h 184 (gPaid (h 179) (h 180) w pr (h 184)), r, s)) := by
    intro al hal
    refine loopW (Inv := fun i L H R => ∃ p, L = [some (pR 178), some (pI w), some (pI pr), some (pI al), some (pI (Prod.snd p)), some (pI i), none] ∧ H = frow h 184 p.1 ∧ R = r ∧ p = upto (gPd1F (h 179) (h 180) w pr) i.toNat (h 184, pr)) (a := 0) (n := 4) (by omega) ?_ ?_ _ _ _ ⟨(h 184, pr), rfl, frow_self.symm, rfl, rfl⟩
    · rintro i L H R hi hi2 ⟨p, rfl, rfl, rfl, hp⟩ hK
      have hpd := gPd_rng (m := i) hT hN hi hl
      have e := gPd1_eq (T := (h 179)) (N := (h 180)) (w := w) (pr := pr) (P := h 184) i.toNat
      have e2 := gPdS_rng hT hN hl i.toNat
      rw [← hp] at e
      have e3 := e.1
      have hK2 := hK _ _ _ ⟨_, rfl, rfl, rfl, (upto_s hi).symm⟩
      rw [← hp] at hK2
      clear hK
      unfold gPd1F at hK2
      rw [sh_X8_laysPaid_21]
      by_cases hc : i < h 179 1 ∧ w ≠ -1 ∧ gWant (h 179) (h 180) i = w
      · have hq : gPd (h 179) (h 180) w pr i = pr * gBid (h 179) (h 180) i / gSum (h 179) (h 180) w := by unfold gPd; rw [if_pos hc]
        have hz : 0 < gSum (h 179) (h 180) w := by rcases hl with z | z; exact absurd z.1 hc.2.1; exact z.2.1
        have hb := gBid_rng hN hi hc.1
        have hm0 : 0 ≤ pr * gBid (h 179) (h 180) i := Int.mul_nonneg hpr.1 hb.1
        have hm1 : pr * gBid (h 179) (h 180) i ≤ 288 * 72 := by
          have z1 := Int.mul_le_mul_of_nonneg_right hpr.2 hb.1
          omega
        have ha := hal hc.2.1
        obtain ⟨hc1, hc2, hc3⟩ := hc
        simp (disch := first | assumption | omega) only [st_X8_laysPaid_0, st_X8_laysPaid_1, ↓if_pos, ↓if_neg, if_pos, if_neg, ↓reduceIte, true_and, and_true, false_and, and_false, true_or, or_true, false_or, or_false, w32_id, Kv, Kn, fup_s, fup_a, fup_k, fup_fup, Int.reduceAdd, Int.reduceSub, Int.reduceMul, Int.reduceNeg, SW, SB, frow_rk, frow_sk, fup_frow, up1_s, pdiv_nn, ha, ← hq]
        rw [ha] at hK2
        exact hK2
      · have hq : gPd (h 179) (h 180) w pr i = 0 := by unfold gPd; rw [if_neg hc]
        rw [hq] at hK2
        by_cases hc1 : i < h 179 1
        · by_cases hc2 : w = -1
          · skip
            simp (disch := first | assumption | omega) only [st_X8_laysPaid_0, st_X8_laysPaid_1, ↓if_pos, ↓if_neg, if_pos, if_neg, ↓reduceIte, true_and, and_true, false_and, and_false, true_or, or_true, false_or, or_false, w32_id, Kv, Kn, fup_s, fup_a, fup_k, fup_fup, Int.reduceAdd, Int.reduceSub, Int.reduceMul, Int.reduceNeg, SW, SB, frow_rk, frow_sk, fup_frow, up1_s]
            exact hK2
          · have hc3 : gWant (h 179) (h 180) i ≠ w := fun z => hc ⟨hc1, hc2, z⟩
            simp (disch := first | assumption | omega) only [st_X8_laysPaid_0, st_X8_laysPaid_1, ↓if_pos, ↓if_neg, if_pos, if_neg, ↓reduceIte, true_and, and_true, false_and, and_false, true_or, or_true, false_or, or_false, w32_id, Kv, Kn, fup_s, fup_a, fup_k, fup_fup, Int.reduceAdd, Int.reduceSub, Int.reduceMul, Int.reduceNeg, SW, SB, frow_rk, frow_sk, fup_frow, up1_s]
            exact hK2
        · skip
          simp (disch := first | assumption | omega) only [st_X8_laysPaid_0, st_X8_laysPaid_1, ↓if_pos, ↓if_neg, if_pos, if_neg, ↓reduceIte, true_and, and_true, false_and, and_false, true_or, or_true, false_or, or_false, w32_id, Kv, Kn, fup_s, fup_a, fup_k, fup_fup, Int.reduceAdd, Int.reduceSub, Int.reduceMul, Int.reduceNeg, SW, SB, frow_rk, frow_sk, fup_frow, up1_s]
          exact hK2
    · rintro L H R ⟨p, rfl, rfl, rfl, hp⟩
      rw [sh_X8_laysPaid_21]
      simp (disch := first | assumption | omega) only [st_X8_laysPaid_0, st_X8_laysPaid_1, ↓if_pos, ↓if_neg, if_pos, if_neg, ↓reduceIte, true_and, and_true, false_and, and_false, true_or, or_true, false_or, or_false, w32_id, Kv, Kn, fup_s, fup_a, fup_k, fup_fup, Int.reduceAdd, Int.reduceSub, Int.reduceMul, Int.reduceNeg]
      have e := (gPd1_eq (T := (h 179)) (N := (h 180)) (w := w) (pr := pr) (P := h 184) 4).1
      have e2 := gPdS_rng hT hN hl 4
      have hp4 : p = upto (gPd1F (h 179) (h 180) w pr) 4 (h 184, pr) := hp
      rw [← hp4] at e
      have hg : gPaid (h 179) (h 180) w pr (h 184) = (gPasses (h 179) (h 180) w pr.toNat p).1 := by unfold gPaid; rw [← hp4]
      rw [hg]
      have hok : w ≠ -1 → POk (h 179) (h 180) w p := fun hw => by rw [hp4]; exact gPd1_ok hT hN hl hw
      have hw0 : w = -1 → p.2 ≤ 0 := fun hw => by
        rcases hl with z | z
        · have := z.2; omega
        · exact absurd hw z.1
      have hle : p.2 ≤ pr := by omega
      clear hp hp4 e e2 hg
      have key : ∀ (n : Nat) (p : (Int → Int) × Int) (x : Int) (y : Option PV), p.2 ≤ n → p.2 ≤ 288 → (w ≠ -1 → POk (h 179) (h 180) w p) → (w = -1 → p.2 ≤ 0) → Wp 170 92 [some (pR 178), some (pI w), some (pI pr), some (pI al), some (pI p.2), some (pI x), y] [] LY nx (frow h 184 p.1, R, s) (fun o1 l1 n1 h1 => o1 = Sum.inl none ∧ l1 = LY ∧ n1 = nx ∧ h1 = (frow h 184 (gPasses (h 179) (h 180) w n p).1, R, s)) := by
        intro n
        induction n with
        | zero =>
          intro p x y hn _ _ _
          rw [sh_X8_laysPaid_92]
          simp (disch := first | assumption | omega) only [st_X8_laysPaid_0, st_X8_laysPaid_1, ↓if_pos, ↓if_neg, if_pos, if_neg, ↓reduceIte, true_and, and_true, false_and, and_false, true_or, or_true, false_or, or_false, w32_id, Kv, Kn, fup_s, fup_a, fup_k, fup_fup, Int.reduceAdd, Int.reduceSub, Int.reduceMul, Int.reduceNeg]
          all_goals first | rfl | exact ⟨rfl, rfl, rfl, rfl⟩
        | succ n ih =>
          intro p x y hn h288 hok hw0
          rw [sh_X8_laysPaid_92]
          by_cases hz : p.2 ≤ 0
          · rw [gPasses_stop hz]
            simp (disch := first | assumption | omega) only [st_X8_laysPaid_0, st_X8_laysPaid_1, ↓if_pos, ↓if_neg, if_pos, if_neg, ↓reduceIte, true_and, and_true, false_and, and_false, true_or, or_true, false_or, or_false, w32_id, Kv, Kn, fup_s, fup_a, fup_k, fup_fup, Int.reduceAdd, Int.reduceSub, Int.reduceMul, Int.reduceNeg]
            all_goals first | rfl | exact ⟨rfl, rfl, rfl, rfl⟩
          · have hw : w ≠ -1 := fun z => hz (hw0 z)
            have hlt := gPass_lt hN (by omega) (hok hw)
            have e5 : gPasses (h 179) (h 180) w (n + 1) p = gPasses (h 179) (h 180) w n (gPass (h 179) (h 180) w p) := by show (if p.2 ≤ 0 then p else _) = _; rw [if_neg hz]
            rw [e5]
            simp (disch := first | assumption | omega) only [st_X8_laysPaid_0, st_X8_laysPaid_1, ↓if_pos, ↓if_neg, if_pos, if_neg, ↓reduceIte, true_and, and_true, false_and, and_false, true_or, or_true, false_or, or_false, w32_id, Kv, Kn, fup_s, fup_a, fup_k, fup_fup, Int.reduceAdd, Int.reduceSub, Int.reduceMul, Int.reduceNeg]
            refine loopW (Inv := fun i L H R' => ∃ p2 y, L = [some (pR 178), some (pI w), some (pI pr), some (pI al), some (pI (Prod.snd p2)), some (pI i), y] ∧ H = frow h 184 p2.1 ∧ R' = R ∧ p2 = upto (gPassF (h 179) (h 180) w) i.toNat p ∧ POk (h 179) (h 180) w p2 ∧ 0 ≤ p2.2 ∧ p2.2 ≤ 288) (a := 0) (n := h 179 1) (by omega) ?_ ?_ _ _ _ ⟨p, _, rfl, rfl, rfl, rfl, hok hw, by omega, h288⟩
            · rintro i L H R' hi hi2 ⟨p2, y, rfl, rfl, rfl, hp2, hok2, h0, h2⟩ hK
              have j := gPassF_le (T := (h 179)) (N := (h 180)) (w := w) (m := i) (p := p2)
              have hK2 := fun y' => hK _ _ _ ⟨gPassF (h 179) (h 180) w i p2, y', rfl, rfl, rfl, by rw [upto_s hi, ← hp2], gPassF_ok hN hi hi2 hok2, j.2 h0, by omega⟩
              clear hK
              have hb := gBid_rng hN hi hi2
              have hpm := hok2.2 i hi hi2
              unfold gPassF at hK2
              rw [sh_X8_laysPaid_100]
              by_cases hc : 0 < p2.2 ∧ gWant (h 179) (h 180) i = w ∧ p2.1 i < gBid (h 179) (h 180) i
              · rw [if_pos hc] at hK2
                obtain ⟨hc1, hc2, hc3⟩ := hc
                simp (disch := first | assumption | omega) only [st_X8_laysPaid_0, st_X8_laysPaid_1, ↓if_pos, ↓if_neg, if_pos, if_neg, ↓reduceIte, true_and, and_true, false_and, and_false, true_or, or_true, false_or, or_false, w32_id, Kv, Kn, fup_s, fup_a, fup_k, fup_fup, Int.reduceAdd, Int.reduceSub, Int.reduceMul, Int.reduceNeg, SW, SB, frow_rk, frow_sk, fup_frow]
                exact hK2 _
              · rw [if_neg hc] at hK2
                have eq0 : up1 p2.1 i (p2.1 i) = p2.1 := by
                  funext j
                  unfold up1
                  by_cases hj : j = i
                  · rw [if_pos hj, hj]
                  · rw [if_neg hj]
                by_cases hc1 : 0 < p2.2
                · by_cases hc2 : gWant (h 179) (h 180) i = w
                  · have hc3 : gBid (h 179) (h 180) i ≤ p2.1 i := Int.not_lt.mp (fun z => hc ⟨hc1, hc2, z⟩)
                    simp (disch := first | assumption | omega) only [st_X8_laysPaid_0, st_X8_laysPaid_1, ↓if_pos, ↓if_neg, if_pos, if_neg, ↓reduceIte, true_and, and_true, false_and, and_false, true_or, or_true, false_or, or_false, w32_id, Kv, Kn, fup_s, fup_a, fup_k, fup_fup, Int.reduceAdd, Int.reduceSub, Int.reduceMul, Int.reduceNeg, SW, SB, frow_rk, frow_sk, fup_frow, Int.add_zero, Int.sub_zero, eq0]
                    exact hK2 _
                  · skip
                    simp (disch := first | assumption | omega) only [st_X8_laysPaid_0, st_X8_laysPaid_1, ↓if_pos, ↓if_neg, if_pos, if_neg, ↓reduceIte, true_and, and_true, false_and, and_false, true_or, or_true, false_or, or_false, w32_id, Kv, Kn, fup_s, fup_a, fup_k, fup_fup, Int.reduceAdd, Int.reduceSub, Int.reduceMul, Int.reduceNeg, SW, SB, frow_rk, frow_sk, fup_frow, Int.add_zero, Int.sub_zero, eq0]
                    exact hK2 _
                · skip
                  simp (disch := first | assumption | omega) only [st_X8_laysPaid_0, st_X8_laysPaid_1, ↓if_pos, ↓if_neg, if_pos, if_neg, ↓reduceIte, true_and, and_true, false_and, and_false, true_or, or_true, false_or, or_false, w32_id, Kv, Kn, fup_s, fup_a, fup_k, fup_fup, Int.reduceAdd, Int.reduceSub, Int.reduceMul, Int.reduceNeg, SW, SB, frow_rk, frow_sk, fup_frow, Int.add_zero, Int.sub_zero, eq0]
                  exact hK2 _
            · rintro L H R' ⟨p2, y, rfl, rfl, rfl, hp2, hok2, h0, h2⟩
              rw [sh_X8_laysPaid_100]
              simp (disch := first | assumption | omega) only [st_X8_laysPaid_0, st_X8_laysPaid_1, ↓if_pos, ↓if_neg, if_pos, if_neg, ↓reduceIte, true_and, and_true, false_and, and_false, true_or, or_true, false_or, or_false, w32_id, Kv, Kn, fup_s, fup_a, fup_k, fup_fup, Int.reduceAdd, Int.reduceSub, Int.reduceMul, Int.reduceNeg, frow_rk]
              have e6 : p2 = gPass (h 179) (h 180) w p := hp2
              rw [e6]
              exact ih _ _ _ (by omega) (by omega) (fun _ => hlt.2.2) (fun z => absurd z hw)
      have := key pr.toNat p 4 none (by omega) (by omega) hok hw0
      exact this
  by_cases hw : w = -1
  · skip
    simp (disch := first | assumption | omega) only [st_X8_laysPaid_0, st_X8_laysPaid_1, ↓if_pos, ↓if_neg, if_pos, if_neg, ↓reduceIte, true_and, and_true, false_and, and_false, true_or, or_true, false_or, or_false, w32_id, Kv, Kn, fup_s, fup_a, fup_k, fup_fup, Int.reduceAdd, Int.reduceSub, Int.reduceMul, Int.reduceNeg]
    exact main _ (fun z => absurd hw z)
  · skip
    simp (disch := first | assumption | omega) only [st_X8_laysPaid_0, st_X8_laysPaid_1, ↓if_pos, ↓if_neg, if_pos, if_neg, ↓reduceIte, true_and, and_true, false_and, and_false, true_or, or_true, false_or, or_false, w32_id, Kv, Kn, fup_s, fup_a, fup_k, fup_fup, Int.reduceAdd, Int.reduceSub, Int.reduceMul, Int.reduceNeg, S_sumOf]
    exact main _ (fun _ => rfl)
