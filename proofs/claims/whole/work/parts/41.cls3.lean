theorem pr_fr {h h' : PF} {p : Int} {T : Int → Int} (hf : ∀ a, p ≤ a → a ≤ p + 6 → h' a = h a) (h1 : PlanRel h p T) : PlanRel h' p T := by
  unfold PlanRel at *
  rw [hf p (by omega) (by omega), hf (p + 1) (by omega) (by omega), hf (p + 2) (by omega) (by omega), hf (p + 3) (by omega) (by omega), hf (p + 4) (by omega) (by omega), hf (p + 5) (by omega) (by omega), hf (p + 6) (by omega) (by omega)]
  exact h1
theorem sr_fr {h h' : PF} {b : Int} {T N : Int → Int} (hf : ∀ a, b ≤ a → a ≤ b + 9 → h' a = h a) (h1 : StRel h b T N) : StRel h' b T N := by
  unfold StRel at *
  rw [hf b (by omega) (by omega), hf (b + 1) (by omega) (by omega), hf (b + 2) (by omega) (by omega), hf (b + 3) (by omega) (by omega), hf (b + 4) (by omega) (by omega), hf (b + 5) (by omega) (by omega), hf (b + 6) (by omega) (by omega), hf (b + 7) (by omega) (by omega), hf (b + 8) (by omega) (by omega), hf (b + 9) (by omega) (by omega)]
  exact h1
theorem fup_fr {h : PF} {a k v : Int} : fup h a k v = frow h a (up1 (h a) k v) := by
  have := fup_frow (h := h) (a := a) (k := k) (v := v) (g := h a)
  rw [frow_self] at this
  exact this
theorem priceU_lt {T N : Int → Int} {w : Int} : ∀ n : Nat, (∀ k : Nat, k < n → (k : Int) ≠ w) → upto (gPriceF T N w) n 0 = (upto (gBestF T N) n (-1, 0)).2
  | 0, _ => rfl
  | n + 1, h => by
    have ih := priceU_lt (T := T) (N := N) n (fun k hk => h k (by omega))
    show gPriceF T N w n (upto (gPriceF T N w) n 0) = (gBestF T N n (upto (gBestF T N) n (-1, 0))).2
    rw [ih]
    generalize upto (gBestF T N) n (-1, 0) = pp
    unfold gPriceF gBestF
    by_cases hc : pp.2 < gSum T N n
    · rw [if_pos ⟨h n (by omega), hc⟩, if_pos hc]
    · rw [if_neg (fun z => hc z.2), if_neg hc]
theorem D_findBest {p : Int} {T N : Int → Int} {nx : Nat} {h r : PF} {s : Int → Int} {Q : PO → PY → Nat → PC → Prop} (hp0 : 0 < p) (hpk : kd LY p = (0, 2)) (hp20 : 20 < p) (hT : TWf T) (hN : NWf T N) (ep0 : h p 0 = T 0) (hs : ∀ l, 0 ≤ l → l < T 0 → h 13 l = gSum T N l) (K : ∀ g : Int → Int, g 5 = gBest T N → g 6 = gRp T N → Q (Sum.inl none) LY nx (frow h 9 g, r, s)) (hW : WFr r) : Wp 6 0 [some (pR 9), some (pR p), none, none] [] LY nx (h, r, s) Q := by
  have hT0 := hT.1
  simp (disch := first | assumption | omega) only [st_X0_findBest, ↓if_pos, ↓if_neg, if_pos, if_neg, ↓reduceIte, true_and, and_true, false_and, and_false, true_or, or_true, false_or, or_false, w32_id, Kv, Kn, fup_s, fup_a, fup_k, fup_fup, Int.reduceAdd, Int.reduceSub, Int.reduceMul, Int.reduceNeg]
  simp (disch := omega) only [fup_fr, frow_frow, frow_s]
  refine loopW (Inv := fun i L H R => ∃ g, L = [some (pR 9), some (pR p), some (pI (upto (gBestF T N) i.toNat (-1, 0)).2), some (pI i)] ∧ H = frow h 9 g ∧ R = r ∧ g 5 = (upto (gBestF T N) i.toNat (-1, 0)).1 ∧ g 6 = upto (gPriceF T N (upto (gBestF T N) i.toNat (-1, 0)).1) i.toNat 0) (a := 0) (n := T 0) (by omega) ?_ ?_ _ _ _ ⟨_, rfl, rfl, rfl, by rw [up1_k (by omega), up1_s]; rfl, by rw [up1_s]; rfl⟩
  · rintro i L H R hi hi2 ⟨g, rfl, rfl, rfl, h5, h6⟩ hK
    have hsi := hs i hi hi2
    have hb2 := gBest2_ok (T := T) (N := N) i.toNat
    have eit : (i.toNat : Int) = i := Int.toNat_of_nonneg hi
    rw [upto_s hi] at hK
    have hup : ∀ w, upto (gPriceF T N w) (i + 1).toNat 0 = gPriceF T N w i (upto (gPriceF T N w) i.toNat 0) := fun w => upto_s hi
    have hlt := fun w hw => priceU_lt (T := T) (N := N) (w := w) i.toNat hw
    generalize upto (gBestF T N) i.toNat (-1, 0) = pp at *
    rw [sh_X0_findBest_14]
    by_cases hc : pp.2 < gSum T N i
    · have e : gBestF T N i pp = (i, gSum T N i) := by unfold gBestF; rw [if_pos hc]
      rw [e] at hK
      simp (disch := first | assumption | omega) only [st_X0_findBest, ↓if_pos, ↓if_neg, if_pos, if_neg, ↓reduceIte, true_and, and_true, false_and, and_false, true_or, or_true, false_or, or_false, w32_id, Kv, Kn, fup_s, fup_a, fup_k, fup_fup, Int.reduceAdd, Int.reduceSub, Int.reduceMul, Int.reduceNeg, frow_rk, frow_sk, ep0, hsi, fup_frow]
      refine hK _ _ _ ⟨_, rfl, rfl, rfl, up1_s, ?_⟩
      rw [up1_k (by omega), up1_s, hup]
      have e2 : ∀ x, gPriceF T N i i x = x := fun x => by unfold gPriceF; rw [if_neg (fun z => z.1 rfl)]
      show pp.2 = gPriceF T N i i (upto (gPriceF T N i) i.toNat 0)
      rw [e2, hlt i (fun k hk => by omega)]
    · have e : gBestF T N i pp = pp := by unfold gBestF; rw [if_neg hc]
      rw [e] at hK
      simp (disch := first | assumption | omega) only [st_X0_findBest, ↓if_pos, ↓if_neg, if_pos, if_neg, ↓reduceIte, true_and, and_true, false_and, and_false, true_or, or_true, false_or, or_false, w32_id, Kv, Kn, fup_s, fup_a, fup_k, fup_fup, Int.reduceAdd, Int.reduceSub, Int.reduceMul, Int.reduceNeg, frow_rk, frow_sk, ep0, hsi, fup_frow]
      refine hK _ _ _ ⟨_, rfl, rfl, rfl, by rw [up1_k (by omega)]; exact h5, ?_⟩
      rw [up1_s, hup, ← h6]
      have hne : i ≠ pp.1 := by rcases hb2.1 with z | z <;> omega
      unfold gPriceF
      by_cases hz : g 6 < gSum T N i
      · rw [if_pos hz, if_pos ⟨hne, hz⟩]
      · rw [if_neg hz, if_neg (fun y => hz y.2)]
  · rintro L H R ⟨g, rfl, rfl, rfl, h5, h6⟩
    rw [sh_X0_findBest_14]
    simp (disch := first | assumption | omega) only [st_X0_findBest, ↓if_pos, ↓if_neg, if_pos, if_neg, ↓reduceIte, true_and, and_true, false_and, and_false, true_or, or_true, false_or, or_false, w32_id, Kv, Kn, fup_s, fup_a, fup_k, fup_fup, Int.reduceAdd, Int.reduceSub, Int.reduceMul, Int.reduceNeg, frow_rk, ep0]
    refine K g h5 ?_
    rw [h6]
    show upto (gPriceF T N (gBest T N)) (T 0).toNat 0 = gPrice T N (gBest T N)
    unfold gPrice
    by_cases hc : gBest T N = -1
    · rw [if_pos hc, hc, priceU_lt _ (fun k hk => by omega)]
      have hb2 := gBest2_ok (T := T) (N := N) (T 0).toNat
      have e : (upto (gBestF T N) (T 0).toNat (-1, 0)).1 = gBest T N := rfl
      rcases hb2.1 with z | z
      · exact z.2
      · rw [e, hc] at z; omega
    · rw [if_neg hc]
theorem gPassF_stop {T N : Int → Int} {w m : Int} {p : (Int → Int) × Int} (h : p.2 ≤ 0) : gPassF T N w m p = p := by
  unfold gPassF
  rw [if_neg (by omega)]
theorem gPassU_stop {T N : Int → Int} {w : Int} {p : (Int → Int) × Int} {j : Nat} (h : (upto (gPassF T N w) j p).2 ≤ 0) : ∀ i : Nat, upto (gPassF T N w) (j + i) p = upto (gPassF T N w) j p
  | 0 => rfl
  | i + 1 => by
    have ih := gPassU_stop h i
    show gPassF T N w ((j + i : Nat) : Int) (upto (gPassF T N w) (j + i) p) = _
    rw [ih]
    exact gPassF_stop h
theorem POk_of {T N : Int → Int} {w pr rest : Int} {P : Int → Int} (hT : TWf T) (hN : NWf T N) (h : LPd T N w pr) (hw : w ≠ -1) (hP : ∀ m, 0 ≤ m → m < T 1 → P m = gPd T N w pr m) (hr : rest = pr - upto (fun m a => a + gPd T N w pr m) (T 1).toNat 0) : POk T N w (P, rest) := by
  have hT1 := hT.2.1
  refine ⟨?_, fun m hm hm2 => ?_⟩
  · show rest ≤ gRoom T N w P (T 1).toNat
    rw [hr, gSum_S (pr := pr) _ (fun m hm => hP m (by omega) (by omega)) (by omega) hw]
    rcases h with h | h
    · exact absurd h.1 hw
    · have : upto (gSumF T N w) (T 1).toNat 0 = gSum T N w := rfl
      omega
  · show 0 ≤ P m ∧ P m ≤ 288
    rw [hP m hm hm2]
    have := gPd_rng hT hN hm h
    omega
theorem D_divideRest {p d rest : Int} {T N P g : Int → Int} {nx : Nat} {h r : PF} {s : Int → Int} {Q : PO → PY → Nat → PC → Prop} (hW : WFr r) (hp0 : 0 < p) (hpk : kd LY p = (0, 2)) (hp20 : 20 < p) (hT : TWf T) (hN : NWf T N) (ep1 : h p 1 = T 1) (hl : LPd T N (gRw T N) (gRp T N)) (h11 : ∀ m, 0 ≤ m → m < T 1 → h 11 m = gBid T N m) (g6 : g 6 = gRp T N) (g7 : g 7 = gRb T N) (hd : 0 ≤ d ∧ d ≤ 1000) (hrest : rest = gRp T N - d) (hP : ∀ m, 0 ≤ m → m < T 1 → P m = gPd T N (gRw T N) (gRp T N) m) (hds : d = upto (fun m a => a + gPd T N (gRw T N) (gRp T N) m) (T 1).toNat 0) (K : ∀ P', (∀ m, 0 ≤ m → m < T 1 → P' m = gRP T N m) → Q (Sum.inl none) LY nx (frow (frow h 9 g) 12 P', r, s)) : Wp 8 0 [some (pR 9), some (pR p), some (pI d), none, none, none] [] LY nx (frow (frow h 9 g) 12 P, r, s) Q := by
  have hT1 := hT.2.1
  have hsr := gSumU_rng (l := gRw T N) hN (T 1).toNat (by omega)
  have hpr : 0 ≤ gRp T N ∧ gRp T N ≤ 288 := by
    rcases hl with z | z
    · omega
    · have : gSum T N (gRw T N) ≤ 288 := by have := hsr.2; unfold gSum; omega
      omega
  have hw0 : gRw T N = -1 → rest ≤ 0 := fun hw => by
    rcases hl with z | z
    · omega
    · exact absurd hw z.1
  have hok : gRw T N ≠ -1 → POk T N (gRw T N) (P, rest) := fun hw => POk_of hT hN hl hw hP (by rw [hrest, hds])
  have hby := (gByU (T := T) (N := N) (w := gRw T N) (T 1).toNat (by omega)).2
  have eb : upto (gByF T N (gRw T N)) (T 1).toNat 0 = gRb T N := rfl
  rw [eb] at hby
  have fin : ∀ m, 0 ≤ m → m < T 1 → (gPasses T N (gRw T N) (gRp T N).toNat (P, rest)).1 m = gRP T N m := by
    intro m hm hm2
    have hq : peq T (P, rest) (upto (gPd1F T N (gRw T N) (gRp T N)) 4 ((fun _ => 0), gRp T N)) := by
      have e := gPd1_eq (T := T) (N := N) (w := gRw T N) (pr := gRp T N) (P := fun _ => 0) 4
      refine ⟨?_, fun m hm hm2 => ?_⟩
      · show rest = _
        rw [e.1, gPdS_stop 4 (by omega) (by omega), hrest, hds]
      · show P m = _
        have e2 := e.2 m.toNat (by omega)
        rw [Int.toNat_of_nonneg hm] at e2
        rw [e2, hP m hm hm2]
    exact (gPasses_peq hT1.1 _ _ _ hq).2 m hm hm2
  simp (disch := first | assumption | omega) only [st_X0_divideRest, ↓if_pos, ↓if_neg, if_pos, if_neg, ↓reduceIte, true_and, and_true, false_and, and_false, true_or, or_true, false_or, or_false, w32_id, Kv, Kn, fup_s, fup_a, fup_k, fup_fup, Int.reduceAdd, Int.reduceSub, Int.reduceMul, Int.reduceNeg, frow_rk, frow_sk, g6, ← hrest]
  have key : ∀ (n : Nat) (k : Int) (q : (Int → Int) × Int) (x : Option PV), k + n = gRp T N → 0 ≤ k → q.2 ≤ 288 → (gRw T N ≠ -1 → POk T N (gRw T N) q) → (gRw T N = -1 → q.2 ≤ 0) → gPasses T N (gRw T N) (gRp T N).toNat (P, rest) = gPasses T N (gRw T N) n q → Wp 8 10 [some (pR 9), some (pR p), some (pI d), some (pI q.2), some (pI k), x] [] LY nx (frow (frow h 9 g) 12 q.1, r, s) Q := by
    intro n
    induction n with
    | zero =>
      intro k q x hk hk0 _ _ _ hg
      rw [sh_X0_divideRest_10]
      simp (disch := first | assumption | omega) only [st_X0_divideRest, ↓if_pos, ↓if_neg, if_pos, if_neg, ↓reduceIte, true_and, and_true, false_and, and_false, true_or, or_true, false_or, or_false, w32_id, Kv, Kn, fup_s, fup_a, fup_k, fup_fup, Int.reduceAdd, Int.reduceSub, Int.reduceMul, Int.reduceNeg, frow_rk, frow_sk, g6]
      refine K _ (fun m hm hm2 => ?_)
      rw [← fin m hm hm2, hg]
      rfl
    | succ n ih =>
      intro k q x hk hk0 h288 hokq hwq hg
      rw [sh_X0_divideRest_10]
      by_cases hz : q.2 ≤ 0
      · skip
        simp (disch := first | assumption | omega) only [st_X0_divideRest, ↓if_pos, ↓if_neg, if_pos, if_neg, ↓reduceIte, true_and, and_true, false_and, and_false, true_or, or_true, false_or, or_false, w32_id, Kv, Kn, fup_s, fup_a, fup_k, fup_fup, Int.reduceAdd, Int.reduceSub, Int.reduceMul, Int.reduceNeg, frow_rk, frow_sk, g6]
        refine K _ (fun m hm hm2 => ?_)
        rw [← fin m hm hm2, hg, gPasses_stop hz]
      · have hw : gRw T N ≠ -1 := fun z => hz (hwq z)
        have hlt := gPass_lt hN (by omega) (hokq hw)
        have e5 : gPasses T N (gRw T N) (n + 1) q = gPasses T N (gRw T N) n (gPass T N (gRw T N) q) := by show (if q.2 ≤ 0 then q else _) = _; rw [if_neg hz]
        rw [e5] at hg
        have after : ∀ x, Wp 8 10 [some (pR 9), some (pR p), some (pI d), some (pI (gPass T N (gRw T N) q).2), some (pI (k + 1)), x] [] LY nx (frow (frow h 9 g) 12 (gPass T N (gRw T N) q).1, r, s) Q := by
          intro x
          exact ih _ _ _ (by omega) (by omega) (by omega) (fun _ => hlt.2.2) (fun z => absurd z hw) hg
        simp (disch := first | assumption | omega) only [st_X0_divideRest, ↓if_pos, ↓if_neg, if_pos, if_neg, ↓reduceIte, true_and, and_true, false_and, and_false, true_or, or_true, false_or, or_false, w32_id, Kv, Kn, fup_s, fup_a, fup_k, fup_fup, Int.reduceAdd, Int.reduceSub, Int.reduceMul, Int.reduceNeg, frow_rk, frow_sk, g6]
        refine loopW (Inv := fun j L H R => ∃ q2, L = [some (pR 9), some (pR p), some (pI d), some (pI (Prod.snd q2)), some (pI k), some (pI j)] ∧ H = frow (frow h 9 g) 12 q2.1 ∧ R = r ∧ q2 = upto (gPassF T N (gRw T N)) j.toNat q ∧ POk T N (gRw T N) q2 ∧ q2.2 ≤ 288) (a := 0) (n := T 1) (by omega) ?_ ?_ _ _ _ ⟨q, rfl, rfl, rfl, rfl, hokq hw, h288⟩
        · rintro j L H R hj hj2 ⟨q2, rfl, rfl, rfl, hq2, hok2, h288b⟩ hK
          have jle := gPassF_le (T := T) (N := N) (w := gRw T N) (m := j) (p := q2)
          have hK2 := hK _ _ _ ⟨gPassF T N (gRw T N) j q2, rfl, rfl, rfl, by rw [upto_s hj, ← hq2], gPassF_ok hN hj hj2 hok2, by omega⟩
          clear hK
          have hb := gBid_rng hN hj hj2
          have hpm := hok2.2 j hj hj2
          have hbit := hby j hj (by omega)
          have h11j := h11 j hj hj2
          rw [sh_X0_divideRest_26]
          by_cases hz2 : q2.2 ≤ 0
          · have e6 : gPass T N (gRw T N) q = q2 := by
              have := gPassU_stop (T := T) (N := N) (w := gRw T N) (p := q) (j := j.toNat) (by rw [← hq2]; exact hz2) ((T 1).toNat - j.toNat)
              rw [show j.toNat + ((T 1).toNat - j.toNat) = (T 1).toNat from by omega, ← hq2] at this
              exact this
            rw [e6] at after
            simp (disch := first | assumption | omega) only [st_X0_divideRest, ↓if_pos, ↓if_neg, if_pos, if_neg, ↓reduceIte, true_and, and_true, false_and, and_false, true_or, or_true, false_or, or_false, w32_id, Kv, Kn, fup_s, fup_a, fup_k, fup_fup, Int.reduceAdd, Int.reduceSub, Int.reduceMul, Int.reduceNeg, frow_rk, frow_sk, ep1]
            exact after _
          · unfold gPassF at hK2
            by_cases hc2 : gWant T N j = gRw T N
            · have hb1 : pand (pshr (gRb T N) j) 1 = 1 := hbit.mpr ⟨by omega, hw, hc2⟩
              by_cases hc3 : q2.1 j < gBid T N j
              · rw [if_pos ⟨by omega, hc2, hc3⟩] at hK2
                simp (disch := first | assumption | omega) only [st_X0_divideRest, ↓if_pos, ↓if_neg, if_pos, if_neg, ↓reduceIte, true_and, and_true, false_and, and_false, true_or, or_true, false_or, or_false, w32_id, Kv, Kn, fup_s, fup_a, fup_k, fup_fup, Int.reduceAdd, Int.reduceSub, Int.reduceMul, Int.reduceNeg, frow_rk, frow_sk, fup_frow, ep1, g7, hb1, h11j]
                exact hK2
              · rw [if_neg (fun z => hc3 z.2.2)] at hK2
                simp (disch := first | assumption | omega) only [st_X0_divideRest, ↓if_pos, ↓if_neg, if_pos, if_neg, ↓reduceIte, true_and, and_true, false_and, and_false, true_or, or_true, false_or, or_false, w32_id, Kv, Kn, fup_s, fup_a, fup_k, fup_fup, Int.reduceAdd, Int.reduceSub, Int.reduceMul, Int.reduceNeg, frow_rk, frow_sk, ep1, g7, hb1, h11j]
                exact hK2
            · have hb1 : ¬ pand (pshr (gRb T N) j) 1 = 1 := fun z => hc2 (hbit.mp z).2.2
              rw [if_neg (fun z => hc2 z.2.1)] at hK2
              simp (disch := first | assumption | omega) only [st_X0_divideRest, ↓if_pos, ↓if_neg, if_pos, if_neg, ↓reduceIte, true_and, and_true, false_and, and_false, true_or, or_true, false_or, or_false, w32_id, Kv, Kn, fup_s, fup_a, fup_k, fup_fup, Int.reduceAdd, Int.reduceSub, Int.reduceMul, Int.reduceNeg, frow_rk, frow_sk, ep1, g7, if_neg hb1, if_pos hb1]
              exact hK2
        · rintro L H R ⟨q2, rfl, rfl, rfl, hq2, hok2, h288b⟩
          have e6 : q2 = gPass T N (gRw T N) q := hq2
          rw [← e6] at after
          rw [sh_X0_divideRest_26]
          simp (disch := first | assumption | omega) only [st_X0_divideRest, ↓if_pos, ↓if_neg, if_pos, if_neg, ↓reduceIte, true_and, and_true, false_and, and_false, true_or, or_true, false_or, or_false, w32_id, Kv, Kn, fup_s, fup_a, fup_k, fup_fup, Int.reduceAdd, Int.reduceSub, Int.reduceMul, Int.reduceNeg, frow_rk, ep1]
          exact after _
  exact key (gRp T N).toNat 0 (P, rest) _ (by omega) (by omega) (by show rest ≤ 288; omega) hok hw0 rfl
