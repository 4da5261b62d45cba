theorem D_divideCost {p : Int} {T N : Int → Int} {nx : Nat} {h r : PF} {s : Int → Int} {Q : PO → PY → Nat → PC → Prop} (hW : WFr r) (hp0 : 0 < p) (hpk : kd LY p = (0, 2)) (hp20 : 20 < p) (hT : TWf T) (hN : NWf T N) (ep1 : h p 1 = T 1) (h10 : ∀ m, 0 ≤ m → m < T 1 → h 10 m = gWant T N m) (h11 : ∀ m, 0 ≤ m → m < T 1 → h 11 m = gBid T N m) (h13 : ∀ l, 0 ≤ l → l < T 0 → h 13 l = gSum T N l) (h95 : h 9 5 = gRw T N) (h96 : h 9 6 = gRp T N) (K : ∀ g P', g 5 = gRw T N → g 6 = gRp T N → g 7 = gRb T N → (∀ m, 0 ≤ m → m < T 1 → P' m = gRP T N m) → Q (Sum.inl none) LY nx (frow (frow h 9 g) 12 P', r, s)) : Wp 7 0 [some (pR 9), some (pR p), none, none, none] [] LY nx (h, r, s) Q := by
  have hT0 := hT.1
  have hT1 := hT.2.1
  have hbo := gBest_ok hT hN
  have hl : LPd T N (gRw T N) (gRp T N) := hbo.2
  have hsr := gSumU_rng (l := gRw T N) hN (T 1).toNat (by omega)
  have hsr2 : 0 ≤ gSum T N (gRw T N) ∧ gSum T N (gRw T N) ≤ 288 := ⟨hsr.1, by have := hsr.2; unfold gSum; omega⟩
  have hpr : 0 ≤ gRp T N ∧ gRp T N ≤ 288 := by rcases hl with z | z <;> omega
  have main : ∀ sm, sm = (if gRw T N = -1 then 0 else gSum T N (gRw T N)) → Wp 7 32 [some (pR 9), some (pR p), some (pI sm), some (pI 0), some (pI 0)] [] LY nx (fup h 9 7 0, r, s) Q := by
    intro sm hsm
    have hsm0 : 0 ≤ sm ∧ sm ≤ 288 := by rw [hsm]; split <;> omega
    have hsmp : 0 < sm ↔ gRw T N ≠ -1 := by
      rw [hsm]
      rcases hl with z | z
      · rw [if_pos z.1]; exact ⟨fun y => by omega, fun y => absurd z.1 y⟩
      · rw [if_neg z.1]; exact ⟨fun _ => z.1, fun _ => z.2.1⟩
    rw [fup_fr]
    have e0 : frow h 9 (up1 (h 9) 7 0) = frow (frow h 9 (up1 (h 9) 7 0)) 12 (h 12) := by
      have := frow_self (h := frow h 9 (up1 (h 9) 7 0)) (a := 12)
      rw [frow_r (by omega)] at this
      exact this.symm
    rw [e0]
    refine loopW (Inv := fun i L H R => ∃ g P, L = [some (pR 9), some (pR p), some (pI sm), some (pI (upto (fun m a => a + gPd T N (gRw T N) (gRp T N) m) i.toNat 0)), some (pI i)] ∧ H = frow (frow h 9 g) 12 P ∧ R = r ∧ g 5 = gRw T N ∧ g 6 = gRp T N ∧ g 7 = upto (gByF T N (gRw T N)) i.toNat 0 ∧ ∀ m, 0 ≤ m → m < i → P m = gPd T N (gRw T N) (gRp T N) m) (a := 0) (n := T 1) (by omega) ?_ ?_ _ _ _ ⟨_, _, rfl, rfl, rfl, by rw [up1_k (by omega)]; exact h95, by rw [up1_k (by omega)]; exact h96, by rw [up1_s]; rfl, fun m h1 h2 => by omega⟩
    · rintro i L H R hi hi2 ⟨g, P, rfl, rfl, rfl, g5, g6, g7, hP⟩ hK
      have hw := h10 i hi hi2
      have ho := h11 i hi hi2
      have hb := gBid_rng hN hi hi2
      have hpd := gPd_rng hT hN hi hl
      have hds := gPdS_rng hT hN hl i.toNat
      have hby := (gByU (T := T) (N := N) (w := gRw T N) i.toNat (by omega)).1
      have hKK : ∀ d g' P', d = upto (fun m a => a + gPd T N (gRw T N) (gRp T N) m) i.toNat 0 + gPd T N (gRw T N) (gRp T N) i → g' 5 = gRw T N → g' 6 = gRp T N → g' 7 = gByF T N (gRw T N) i (upto (gByF T N (gRw T N)) i.toNat 0) → P' = up1 P i (gPd T N (gRw T N) (gRp T N) i) → Wp 7 32 [some (pR 9), some (pR p), some (pI sm), some (pI d), some (pI (i + 1))] [] LY nx (frow (frow h 9 g') 12 P', R, s) Q := by
        intro d g' P' e1 e2 e3 e4 e5
        refine hK _ _ _ ⟨g', P', ?_, rfl, rfl, e2, e3, ?_, fun m h1 h2 => ?_⟩
        · rw [upto_s hi, e1]
        · rw [upto_s hi, e4]
        · rw [e5]
          by_cases hmi : m = i
          · rw [hmi, up1_s]
          · rw [up1_k hmi]; exact hP m h1 (by omega)
      clear hK
      have e9 : ∀ P' v, fup (frow (frow h 9 g) 12 P') 9 7 v = frow (frow h 9 (up1 g 7 v)) 12 P' := by
        intro P' v
        funext a' k'
        unfold fup frow up1
        by_cases z1 : a' = 9
        · by_cases z2 : k' = 7
          · rw [if_pos ⟨z1, z2⟩, if_neg (by omega), if_pos z1, if_pos z2]
          · rw [if_neg (fun y => z2 y.2), if_neg (by omega), if_pos z1, if_neg (by omega), if_pos z1, if_neg z2]
        · rw [if_neg (fun y => z1 y.1)]
          by_cases z3 : a' = 12
          · rw [if_pos z3, if_pos z3]
          · rw [if_neg z3, if_neg z1, if_neg z3, if_neg z1]
      generalize hdd : upto (fun m a => a + gPd T N (gRw T N) (gRp T N) m) i.toNat 0 = dd at *
      generalize hbb : upto (gByF T N (gRw T N)) i.toNat 0 = bb at *
      rw [sh_X0_divideCost_32]
      by_cases hc : gRw T N ≠ -1 ∧ gWant T N i = gRw T N
      · have hsp := hsmp.mpr hc.1
        have hsme : sm = gSum T N (gRw T N) := by rw [hsm, if_neg hc.1]
        have hq : gPd T N (gRw T N) (gRp T N) i = gRp T N * gBid T N i / sm := by unfold gPd; rw [if_pos ⟨hi2, hc.1, hc.2⟩, hsme]
        have hm0 : 0 ≤ gRp T N * gBid T N i := Int.mul_nonneg hpr.1 hb.1
        have hm1 : gRp T N * gBid T N i ≤ 288 * 72 := by
          have z1 := Int.mul_le_mul_of_nonneg_right hpr.2 hb.1
          omega
        have hcw := hc.2
        simp (disch := first | assumption | omega) only [st_X0_divideCost_0, st_X0_divideCost_1, ↓if_pos, ↓if_neg, if_pos, if_neg, ↓reduceIte, true_and, and_true, false_and, and_false, true_or, or_true, false_or, or_false, w32_id, Kv, Kn, fup_s, fup_a, fup_k, fup_fup, Int.reduceAdd, Int.reduceSub, Int.reduceMul, Int.reduceNeg, frow_rk, frow_sk, fup_frow, up1_s, up1_k, up1_up1, ep1, hw, ho, g5, g6, g7, e9, hcw, pdiv_nn, ← hq]
        refine hKK _ _ _ rfl (by rw [up1_k (by omega)]; exact g5) (by rw [up1_k (by omega)]; exact g6) ?_ rfl
        rw [up1_s]
        unfold gByF
        rw [if_pos hc]
      · have hq : gPd T N (gRw T N) (gRp T N) i = 0 := by unfold gPd; rw [if_neg (fun z => hc z.2)]
        have hfin : Wp 7 32 [some (pR 9), some (pR p), some (pI sm), some (pI dd), some (pI (i + 1))] [] LY nx (frow (frow h 9 g) 12 (up1 P i 0), R, s) Q := by
          refine hKK _ _ _ (by rw [hq]; omega) g5 g6 ?_ (by rw [hq])
          unfold gByF
          rw [if_neg hc, por_0 hby.1 hby.2]
          exact g7
        by_cases hc1 : gRw T N = -1
        · have hs0 : sm ≤ 0 := Int.not_lt.mp (fun z => (hsmp.mp z) hc1)
          simp (disch := first | assumption | omega) only [st_X0_divideCost_0, st_X0_divideCost_1, ↓if_pos, ↓if_neg, if_pos, if_neg, ↓reduceIte, true_and, and_true, false_and, and_false, true_or, or_true, false_or, or_false, w32_id, Kv, Kn, fup_s, fup_a, fup_k, fup_fup, Int.reduceAdd, Int.reduceSub, Int.reduceMul, Int.reduceNeg, frow_rk, frow_sk, fup_frow, ep1]
          exact hfin
        · have hsp := hsmp.mpr hc1
          have hcw : gWant T N i ≠ gRw T N := fun z => hc ⟨hc1, z⟩
          simp (disch := first | assumption | omega) only [st_X0_divideCost_0, st_X0_divideCost_1, ↓if_pos, ↓if_neg, if_pos, if_neg, ↓reduceIte, true_and, and_true, false_and, and_false, true_or, or_true, false_or, or_false, w32_id, Kv, Kn, fup_s, fup_a, fup_k, fup_fup, Int.reduceAdd, Int.reduceSub, Int.reduceMul, Int.reduceNeg, frow_rk, frow_sk, fup_frow, ep1, hw, g5]
          exact hfin
    · rintro L H R ⟨g, P, rfl, rfl, rfl, g5, g6, g7, hP⟩
      have hds := gPdS_rng hT hN hl (T 1).toNat
      rw [sh_X0_divideCost_32]
      simp (disch := first | assumption | omega) only [st_X0_divideCost_0, st_X0_divideCost_1, ↓if_pos, ↓if_neg, if_pos, if_neg, ↓reduceIte, true_and, and_true, false_and, and_false, true_or, or_true, false_or, or_false, w32_id, Kv, Kn, fup_s, fup_a, fup_k, fup_fup, Int.reduceAdd, Int.reduceSub, Int.reduceMul, Int.reduceNeg, frow_rk, ep1]
      refine D_divideRest (rest := gRp T N - upto (fun m a => a + gPd T N (gRw T N) (gRp T N) m) (T 1).toNat 0) hW hp0 hpk hp20 hT hN ep1 hl h11 g6 g7 (by omega) rfl hP rfl ?_
      intro P' hP'
      simp (disch := first | assumption | omega) only [st_X0_divideCost_0, st_X0_divideCost_1, ↓if_pos, ↓if_neg, if_pos, if_neg, ↓reduceIte, true_and, and_true, false_and, and_false, true_or, or_true, false_or, or_false, w32_id, Kv, Kn, fup_s, fup_a, fup_k, fup_fup, Int.reduceAdd, Int.reduceSub, Int.reduceMul, Int.reduceNeg]
      exact K g P' g5 g6 g7 hP'
  by_cases hw : gRw T N = -1
  · have e5 : h 9 5 = -1 := by rw [h95, hw]
    simp (disch := first | assumption | omega) only [st_X0_divideCost_0, st_X0_divideCost_1, ↓if_pos, ↓if_neg, if_pos, if_neg, ↓reduceIte, true_and, and_true, false_and, and_false, true_or, or_true, false_or, or_false, w32_id, Kv, Kn, fup_s, fup_a, fup_k, fup_fup, Int.reduceAdd, Int.reduceSub, Int.reduceMul, Int.reduceNeg, e5]
    exact main 0 (by rw [if_pos hw])
  · have hwr : 0 ≤ gRw T N ∧ gRw T N < T 0 := by
      rcases hbo.1 with z | z
      · exact absurd z hw
      · exact z
    have h13w := h13 _ hwr.1 hwr.2
    simp (disch := first | assumption | omega) only [st_X0_divideCost_0, st_X0_divideCost_1, ↓if_pos, ↓if_neg, if_pos, if_neg, ↓reduceIte, true_and, and_true, false_and, and_false, true_or, or_true, false_or, or_false, w32_id, Kv, Kn, fup_s, fup_a, fup_k, fup_fup, Int.reduceAdd, Int.reduceSub, Int.reduceMul, Int.reduceNeg, h95, h13w]
    exact main _ (by rw [if_neg hw])
theorem D_collect {p b : Int} {T N : Int → Int} {nx : Nat} {h r : PF} {s : Int → Int} {Q : PO → PY → Nat → PC → Prop} (hW : WFr r) (hP : PlOk r p) (hS0 : StOk r b) (hT : TWf T) (hR : PlanRel h p T) (hS : StRel h b T N) (hN : NWf T N) (hp20 : 20 < p) (hb20 : 20 < b) (K : ∀ h' : PF, (∀ a, a < 9 ∨ 14 < a → h' a = h a) → (∀ m, 0 ≤ m → m < T 1 → h' 10 m = gWant T N m ∧ h' 11 m = gBid T N m ∧ h' 12 m = gRP T N m) → (∀ l, 0 ≤ l → l < T 0 → h' 13 l = gSum T N l) → h' 9 5 = gRw T N → h' 9 6 = gRp T N → h' 9 7 = gRb T N → Q (Sum.inl none) LY nx (h', r, s)) : Wp 4 0 [some (pR 9), some (pR p), some (pR b), none] [] LY nx (h, r, s) Q := by
  have hT0 := hT.1
  have hT1 := hT.2.1
  have hP1 := hP.1
  have hP0 := hP1.1
  have hPk := hP1.2
  have hS1 := hS0.1
  have hS10 := hS1.1
  have hS1k := hS1.2
  have ep0 := hR.1.1
  have ep1 := hR.1.2.1
  simp (disch := first | assumption | omega) only [st_X0_collect, ↓if_pos, ↓if_neg, if_pos, if_neg, ↓reduceIte, true_and, and_true, false_and, and_false, true_or, or_true, false_or, or_false, w32_id, Kv, Kn, fup_s, fup_a, fup_k, fup_fup, Int.reduceAdd, Int.reduceSub, Int.reduceMul, Int.reduceNeg, (S_fill (a := 13) (n := 4) (v := 0) (by decide) (by decide +kernel) (by decide))]
  refine loopW (Inv := fun i L H R => L = [some (pR 9), some (pR p), some (pR b), some (pI i)] ∧ R = r ∧ (∀ a, a < 9 ∨ 14 < a → H a = h a) ∧ (∀ m, 0 ≤ m → m < i → H 10 m = gWant T N m ∧ H 11 m = gBid T N m) ∧ ∀ l, 0 ≤ l → l < T 0 → H 13 l = upto (gSumF T N l) i.toNat 0) (a := 0) (n := T 1) (by omega) ?_ ?_ _ _ _ ⟨rfl, rfl, fun a ha => frng_r (by omega), fun m h1 h2 => by omega, fun l h1 h2 => by rw [frng_in h1 (by omega)]; rfl⟩
  · rintro i L H R hi hi2 ⟨rfl, rfl, hf, hm, hs⟩ hK
    have hRi : PlanRel H p T := pr_fr (fun a h1 h2 => hf a (by omega)) hR
    have hSi : StRel H b T N := sr_fr (fun a h1 h2 => hf a (by omega)) hS
    have ep1i := hRi.1.2.1
    rw [sh_X0_collect_10]
    simp (disch := first | assumption | omega) only [st_X0_collect, ↓if_pos, ↓if_neg, if_pos, if_neg, ↓reduceIte, true_and, and_true, false_and, and_false, true_or, or_true, false_or, or_false, w32_id, Kv, Kn, fup_s, fup_a, fup_k, fup_fup, Int.reduceAdd, Int.reduceSub, Int.reduceMul, Int.reduceNeg, ep1i]
    refine D_measure hW hP hS0 hT hRi hSi hi hi2 (by omega) (by omega) (fun g hg => ?_)
    simp (disch := first | assumption | omega) only [st_X0_collect, ↓if_pos, ↓if_neg, if_pos, if_neg, ↓reduceIte, true_and, and_true, false_and, and_false, true_or, or_true, false_or, or_false, w32_id, Kv, Kn, fup_s, fup_a, fup_k, fup_fup, Int.reduceAdd, Int.reduceSub, Int.reduceMul, Int.reduceNeg]
    have hRj : PlanRel (frow H 14 g) p T := pr_row (by omega) hRi
    have hSj : StRel (frow H 14 g) b T N := sr_row (by omega) hSi
    refine D_choose hW hP hS0 hT hRj hSj hi hi2 hN (by omega) (by omega) (fun t h1 h2 => by rw [frow_s]; exact hg t h1 h2) ?_
    have hb := gBid_rng hN hi hi2
    have hwo := gWant_ok (T := T) (N := N) (m := i) (by omega)
    have hKK : ∀ H' : PF, (∀ a, a < 9 ∨ 14 < a → H' a = h a) → (∀ m, 0 ≤ m → m < i + 1 → H' 10 m = gWant T N m ∧ H' 11 m = gBid T N m) → (∀ l, 0 ≤ l → l < T 0 → H' 13 l = gSumF T N l i (upto (gSumF T N l) i.toNat 0)) → Wp 4 10 [some (pR 9), some (pR p), some (pR b), some (pI (i + 1))] [] LY nx (H', R, s) Q := fun H' h1 h2 h3 => hK _ _ _ ⟨rfl, rfl, h1, h2, fun l h4 h5 => by rw [upto_s hi]; exact h3 l h4 h5⟩
    clear hK
    have f1 : ∀ a, a < 9 ∨ 14 < a → frow (frow (frow H 14 g) 10 (up1 (frow H 14 g 10) i (gWant T N i))) 11 (up1 (frow H 14 g 11) i (gBid T N i)) a = h a := fun a ha => by rw [frow_r (by omega), frow_r (by omega), frow_r (by omega)]; exact hf a ha
    have f2 : ∀ m, 0 ≤ m → m < i + 1 → frow (frow (frow H 14 g) 10 (up1 (frow H 14 g 10) i (gWant T N i))) 11 (up1 (frow H 14 g 11) i (gBid T N i)) 10 m = gWant T N m ∧ frow (frow (frow H 14 g) 10 (up1 (frow H 14 g 10) i (gWant T N i))) 11 (up1 (frow H 14 g 11) i (gBid T N i)) 11 m = gBid T N m := by
      intro m h1 h2
      rw [frow_rk (by omega), frow_sk, frow_sk, frow_r (by omega), frow_r (by omega)]
      by_cases hmi : m = i
      · rw [hmi, up1_s, up1_s]; exact ⟨rfl, rfl⟩
      · rw [up1_k hmi, up1_k hmi]; exact hm m h1 (by omega)
    have f3 : ∀ l, 0 ≤ l → l < T 0 → frow (frow (frow H 14 g) 10 (up1 (frow H 14 g 10) i (gWant T N i))) 11 (up1 (frow H 14 g 11) i (gBid T N i)) 13 l = upto (gSumF T N l) i.toNat 0 := by
      intro l h1 h2
      rw [frow_rk (by omega), frow_rk (by omega), frow_rk (by omega)]
      exact hs l h1 h2
    generalize frow (frow (frow H 14 g) 10 (up1 (frow H 14 g 10) i (gWant T N i))) 11 (up1 (frow H 14 g 11) i (gBid T N i)) = H2 at f1 f2 f3 ⊢
    have f2i := f2 i hi (by omega)
    have f21 := f2i.1
    have f22 := f2i.2
    by_cases hw : gWant T N i = -1
    · have f23 : H2 10 i = -1 := by rw [f21, hw]
      simp (disch := first | assumption | omega) only [st_X0_collect, ↓if_pos, ↓if_neg, if_pos, if_neg, ↓reduceIte, true_and, and_true, false_and, and_false, true_or, or_true, false_or, or_false, w32_id, Kv, Kn, fup_s, fup_a, fup_k, fup_fup, Int.reduceAdd, Int.reduceSub, Int.reduceMul, Int.reduceNeg, f23]
      refine hKK _ f1 f2 (fun l h1 h2 => ?_)
      rw [f3 l h1 h2]
      unfold gSumF
      rw [if_neg (by omega)]
      omega
    · have hwr : 0 ≤ gWant T N i ∧ gWant T N i < T 0 := by
        rcases hwo with z | z
        · exact absurd z hw
        · exact ⟨z.1, z.2.1⟩
      have f3w := f3 _ hwr.1 hwr.2
      have hsu := gSumU_rng (l := gWant T N i) hN i.toNat (by omega)
      simp (disch := first | assumption | omega) only [st_X0_collect, ↓if_pos, ↓if_neg, if_pos, if_neg, ↓reduceIte, true_and, and_true, false_and, and_false, true_or, or_true, false_or, or_false, w32_id, Kv, Kn, fup_s, fup_a, fup_k, fup_fup, Int.reduceAdd, Int.reduceSub, Int.reduceMul, Int.reduceNeg, f21, f22, f3w]
      refine hKK _ (fun a ha => by rw [fup_r (by omega)]; exact f1 a ha) (fun m h1 h2 => by rw [fup_r (by omega), fup_r (by omega)]; exact f2 m h1 h2) (fun l h1 h2 => ?_)
      unfold gSumF
      by_cases hlw : l = gWant T N i
      · rw [hlw, fup_s, if_pos rfl]
      · rw [fup_k hlw, f3 l h1 h2, if_neg (fun z => hlw z.symm)]
        show _ = upto (gSumF T N l) i.toNat 0 + 0
        omega
  · rintro L H R ⟨rfl, rfl, hf, hm, hs⟩
    have ep1i : H p 1 = T 1 := by rw [hf p (by omega)]; exact ep1
    have ep0i : H p 0 = T 0 := by rw [hf p (by omega)]; exact ep0
    rw [sh_X0_collect_10]
    simp (disch := first | assumption | omega) only [st_X0_collect, ↓if_pos, ↓if_neg, if_pos, if_neg, ↓reduceIte, true_and, and_true, false_and, and_false, true_or, or_true, false_or, or_false, w32_id, Kv, Kn, fup_s, fup_a, fup_k, fup_fup, Int.reduceAdd, Int.reduceSub, Int.reduceMul, Int.reduceNeg, ep1i]
    refine D_findBest hP0 hPk hp20 hT hN ep0i hs ?_ hW
    intro g g5 g6
    simp (disch := first | assumption | omega) only [st_X0_collect, ↓if_pos, ↓if_neg, if_pos, if_neg, ↓reduceIte, true_and, and_true, false_and, and_false, true_or, or_true, false_or, or_false, w32_id, Kv, Kn, fup_s, fup_a, fup_k, fup_fup, Int.reduceAdd, Int.reduceSub, Int.reduceMul, Int.reduceNeg]
    refine D_divideCost hW hP0 hPk hp20 hT hN (by rw [frow_rk (by omega)]; exact ep1i) (fun m h1 h2 => by rw [frow_rk (by omega)]; exact (hm m h1 h2).1) (fun m h1 h2 => by rw [frow_rk (by omega)]; exact (hm m h1 h2).2) (fun l h1 h2 => by rw [frow_rk (by omega)]; exact hs l h1 h2) (by rw [frow_sk]; exact g5) (by rw [frow_sk]; exact g6) ?_
    intro g2 P' e5 e6 e7 hP'
    simp (disch := first | assumption | omega) only [st_X0_collect, ↓if_pos, ↓if_neg, if_pos, if_neg, ↓reduceIte, true_and, and_true, false_and, and_false, true_or, or_true, false_or, or_false, w32_id, Kv, Kn, fup_s, fup_a, fup_k, fup_fup, Int.reduceAdd, Int.reduceSub, Int.reduceMul, Int.reduceNeg]
    refine K _ (fun a ha => by rw [frow_r (by omega), frow_r (by omega), frow_r (by omega)]; exact hf a ha) (fun m h1 h2 => ⟨?_, ?_, ?_⟩) (fun l h1 h2 => ?_) ?_ ?_ ?_
    · rw [frow_rk (by omega), frow_rk (by omega), frow_rk (by omega)]; exact (hm m h1 h2).1
    · rw [frow_rk (by omega), frow_rk (by omega), frow_rk (by omega)]; exact (hm m h1 h2).2
    · rw [frow_sk]; exact hP' m h1 h2
    · rw [frow_rk (by omega), frow_rk (by omega), frow_rk (by omega)]; exact hs l h1 h2
    · rw [frow_rk (by omega), frow_sk]; exact e5
    · rw [frow_rk (by omega), frow_sk]; exact e6
    · rw [frow_rk (by omega), frow_sk]; exact e7
theorem D_obstacle {p b m l : Int} {T N : Int → Int} {nx : Nat} {h r : PF} {s : Int → Int} {Q : PO → PY → Nat → PC → Prop} (hW : WFr r) (hP : PlOk r p) (hS0 : StOk r b) (hT : TWf T) (hR : PlanRel h p T) (hS : StRel h b T N) (hm : 0 ≤ m) (hm2 : m < T 1) (hN : NWf T N) (hp20 : 20 < p) (hb20 : 20 < b) (hl : 0 ≤ l) (hl2 : l < T 0) (K : ∀ h' : PF, (∀ a, a < 9 ∨ 14 < a → h' a = h a) → Q (Sum.inl (some (pI (if 0 < gWhy T N m l then gWhy T N m l else if gWant T N m = l then 0 else 5)))) LY nx (h', r, s)) : Wp 3 0 [some (pR 9), some (pR p), some (pR b), some (pI m), some (pI l), none] [] LY nx (h, r, s) Q := by
  have hT0 := hT.1
  have hT1 := hT.2.1
  have hTm := (hT.2.2.2.2.2 m hm hm2).1
  have hP1 := hP.1
  have hP0 := hP1.1
  have hPk := hP1.2
  have hS1 := hS0.1
  have hS10 := hS1.1
  have hS1k := hS1.2
  have ep0 := hR.1.1
  have ep1 := hR.1.2.1
  obtain ⟨⟨hq0, hqk⟩, ⟨hqr5, hqp5, hqd5⟩, ⟨hqr6, hqp6, hqd6⟩, ⟨hqr7, hqp7, hqd7⟩, ⟨hqr8, hqp8, hqd8⟩, ⟨hqr9, hqp9, hqd9⟩, ⟨hqr10, hqp10, hqd10⟩⟩ := hP
  have hPx : PlOk r p := ⟨⟨hq0, hqk⟩, ⟨hqr5, hqp5, hqd5⟩, ⟨hqr6, hqp6, hqd6⟩, ⟨hqr7, hqp7, hqd7⟩, ⟨hqr8, hqp8, hqd8⟩, ⟨hqr9, hqp9, hqd9⟩, ⟨hqr10, hqp10, hqd10⟩⟩
  obtain ⟨⟨hu0, huk⟩, ⟨hur0, hup0, hud0⟩, ⟨hur1, hup1, hud1⟩, ⟨hur2, hup2, hud2⟩, ⟨hur3, hup3, hud3⟩, ⟨hur4, hup4, hud4⟩, ⟨hur5, hup5, hud5⟩, ⟨hur6, hup6, hud6⟩, ⟨hur7, hup7, hud7⟩, ⟨hur12, hup12, hud12⟩⟩ := hS0
  have hSx : StOk r b := ⟨⟨hu0, huk⟩, ⟨hur0, hup0, hud0⟩, ⟨hur1, hup1, hud1⟩, ⟨hur2, hup2, hud2⟩, ⟨hur3, hup3, hud3⟩, ⟨hur4, hup4, hud4⟩, ⟨hur5, hup5, hud5⟩, ⟨hur6, hup6, hud6⟩, ⟨hur7, hup7, hud7⟩, ⟨hur12, hup12, hud12⟩⟩
  have em := st_m hS hm hm2
  have em0 := em.1
  have em1 := em.2.1
  have hNm := hN.2.2.2.2.1 m hm hm2
  have hN0 := hNm.1
  have hN1 := hNm.2.1
  have hg := gTo_rng hT (wn_wm hN) hm hm2 hl (show l < 4 by omega)
  have hwo : gWhy T N m l = if gTo T N m l < 0 then 1 else if (0 < gS T m (gTo T N m l) 1 ∧ gOf N m (5 + (gTo T N m l)) = 0) then 2 else if gDist T N m (gTo T N m l) = -1 then 3 else if gOf N m 1 = 0 then 4 else 0 := rfl
  by_cases h1 : gTo T N m l < 0
  · have e1 : gGo T m (gOf N m 0) l = -1 := by unfold gTo at h1 hg; omega
    simp (disch := first | assumption | omega) only [st_X0_obstacle, ↓if_pos, ↓if_neg, if_pos, if_neg, ↓reduceIte, true_and, and_true, false_and, and_false, true_or, or_true, false_or, or_false, w32_id, Kv, Kn, fup_s, fup_a, fup_k, fup_fup, Int.reduceAdd, Int.reduceSub, Int.reduceMul, Int.reduceNeg, em0, D_target hPx hT hR, e1]
    have := K h (fun a _ => rfl)
    rw [hwo, if_pos h1, if_pos (by omega)] at this
    exact this
  rw [if_neg h1] at hwo
  have h10 : 0 ≤ gGo T m (gOf N m 0) l := by unfold gTo at h1; omega
  have h11 : gGo T m (gOf N m 0) l < gO T m 2 := hg.2.1
  by_cases h2 : (0 < gS T m (gTo T N m l) 1 ∧ gOf N m (5 + (gTo T N m l)) = 0)
  · have h2' : (0 < gS T m (gGo T m (gOf N m 0) l) 1 ∧ gOf N m (5 + (gGo T m (gOf N m 0) l)) = 0) := h2
    simp (disch := first | assumption | omega) only [st_X0_obstacle, ↓if_pos, ↓if_neg, if_pos, if_neg, ↓reduceIte, true_and, and_true, false_and, and_false, true_or, or_true, false_or, or_false, w32_id, Kv, Kn, fup_s, fup_a, fup_k, fup_fup, Int.reduceAdd, Int.reduceSub, Int.reduceMul, Int.reduceNeg, em0, D_target hPx hT hR, D_isTired hSx hT hS, if_pos h2']
    have := K h (fun a _ => rfl)
    rw [hwo, if_pos h2, if_pos (by omega)] at this
    exact this
  rw [if_neg h2] at hwo
  have h2' : ¬ (0 < gS T m (gGo T m (gOf N m 0) l) 1 ∧ gOf N m (5 + (gGo T m (gOf N m 0) l)) = 0) := h2
  simp (disch := first | assumption | omega) only [st_X0_obstacle, ↓if_pos, ↓if_neg, if_pos, if_neg, ↓reduceIte, true_and, and_true, false_and, and_false, true_or, or_true, false_or, or_false, w32_id, Kv, Kn, fup_s, fup_a, fup_k, fup_fup, Int.reduceAdd, Int.reduceSub, Int.reduceMul, Int.reduceNeg, em0, D_target hPx hT hR, D_isTired hSx hT hS, if_neg h2']
  refine D_measure hW hPx hSx hT hR hS hm hm2 (by omega) (by omega) (fun g hgd => ?_)
  have hgt := hgd _ h10 h11
  have em1i : frow h 14 g (b + 2) m = gOf N m 1 := by rw [frow_rk (by omega)]; exact em1
  by_cases h3 : gDist T N m (gTo T N m l) = -1
  · have h3' : g (gGo T m (gOf N m 0) l) = -1 := by rw [hgt]; exact h3
    simp (disch := first | assumption | omega) only [st_X0_obstacle, ↓if_pos, ↓if_neg, if_pos, if_neg, ↓reduceIte, true_and, and_true, false_and, and_false, true_or, or_true, false_or, or_false, w32_id, Kv, Kn, fup_s, fup_a, fup_k, fup_fup, Int.reduceAdd, Int.reduceSub, Int.reduceMul, Int.reduceNeg, frow_sk, h3']
    have := K (frow h 14 g) (fun a ha => frow_r (by omega))
    rw [hwo, if_pos h3, if_pos (by omega)] at this
    exact this
  rw [if_neg h3] at hwo
  have h3' : g (gGo T m (gOf N m 0) l) ≠ -1 := by rw [hgt]; exact h3
  by_cases h4 : gOf N m 1 = 0
  · skip
    simp (disch := first | assumption | omega) only [st_X0_obstacle, ↓if_pos, ↓if_neg, if_pos, if_neg, ↓reduceIte, true_and, and_true, false_and, and_false, true_or, or_true, false_or, or_false, w32_id, Kv, Kn, fup_s, fup_a, fup_k, fup_fup, Int.reduceAdd, Int.reduceSub, Int.reduceMul, Int.reduceNeg, frow_sk, em1i]
    have := K (frow h 14 g) (fun a ha => frow_r (by omega))
    rw [hwo, if_pos h4, if_pos (by omega)] at this
    exact this
  rw [if_neg h4] at hwo
  simp (disch := first | assumption | omega) only [st_X0_obstacle, ↓if_pos, ↓if_neg, if_pos, if_neg, ↓reduceIte, true_and, and_true, false_and, and_false, true_or, or_true, false_or, or_false, w32_id, Kv, Kn, fup_s, fup_a, fup_k, fup_fup, Int.reduceAdd, Int.reduceSub, Int.reduceMul, Int.reduceNeg, frow_sk, em1i]
  refine D_choose hW hPx hSx hT (pr_row (by omega) hR) (sr_row (by omega) hS) hm hm2 hN (by omega) (by omega) (fun t h5 h6 => by rw [frow_s]; exact hgd t h5 h6) ?_
  have K2 := K (frow (frow (frow h 14 g) 10 (up1 (frow h 14 g 10) m (gWant T N m))) 11 (up1 (frow h 14 g 11) m (gBid T N m))) (fun a ha => by rw [frow_r (by omega), frow_r (by omega), frow_r (by omega)])
  rw [hwo, if_neg (by omega)] at K2
  by_cases h5 : gWant T N m = l
  · rw [if_pos h5] at K2
    rw [h5] at K2 ⊢
    simp (disch := first | assumption | omega) only [st_X0_obstacle, ↓if_pos, ↓if_neg, if_pos, if_neg, ↓reduceIte, true_and, and_true, false_and, and_false, true_or, or_true, false_or, or_false, w32_id, Kv, Kn, fup_s, fup_a, fup_k, fup_fup, Int.reduceAdd, Int.reduceSub, Int.reduceMul, Int.reduceNeg, frow_sk, frow_rk, up1_s]
    exact K2
  · rw [if_neg h5] at K2
    simp (disch := first | assumption | omega) only [st_X0_obstacle, ↓if_pos, ↓if_neg, if_pos, if_neg, ↓reduceIte, true_and, and_true, false_and, and_false, true_or, or_true, false_or, or_false, w32_id, Kv, Kn, fup_s, fup_a, fup_k, fup_fup, Int.reduceAdd, Int.reduceSub, Int.reduceMul, Int.reduceNeg, frow_sk, frow_rk, up1_s]
    exact K2
