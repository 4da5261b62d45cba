theorem C_carryOut {p b : Int} {T N : Int → Int} {nx : Nat} {h r : PF} {s : Int → Int} {Q : PO → PY → Nat → PC → Prop} (hW : WFr r) (hP : PlOk r p) (hS0 : StOk r b) (hT : TWf T) (hR : PlanRel h p T) (hS : StRel h b T N) (hp20 : 20 < p) (hb20 : 20 < b) (hpb : p + 6 < b ∨ b + 9 < p) (hN : NWf T N) (h60 : N 3 < 60) (f12 : ∀ m, 0 ≤ m → m < T 1 → h 12 m = gRP T N m) (f95 : h 9 5 = gRw T N) (f96 : h 9 6 = gRp T N) (f97 : h 9 7 = gRb T N) (K : ∀ h' : PF, (∀ a, a < b ∨ b + 9 < a → h' a = h a) → StRel h' b T (gRound T N) → Q (Sum.inl none) LY nx (h', r, s)) : Wp 10 0 [some (pR 9), some (pR p), some (pR b), none] [] LY nx (h, r, s) Q := by
  have hT0 := hT.1
  have hT1 := hT.2.1
  have hN3 := hN.1
  have hN2 := hN.2.2.1
  have hN108 := hN.2.2.2.1
  have hb := gBest_ok hT hN
  have ha := gRa_ok hT hN
  have hgk := gRs_ok hT hN h60
  have hP0 := hP.1.1
  have hPk := hP.1.2
  have hS1 := hS.1
  have he14 : 0 ≤ h b 14 ∧ h b 14 < 20 := ⟨hS1.2.2.2.2.2.1, hS1.2.2.2.2.2.2.1⟩
  have hS00 := hS0
  obtain ⟨⟨hs0, hsk⟩, ⟨hsr0, hsp0, hsd0⟩, ⟨hsr1, hsp1, hsd1⟩, ⟨hsr2, hsp2, hsd2⟩, ⟨hsr3, hsp3, hsd3⟩, ⟨hsr4, hsp4, hsd4⟩, ⟨hsr5, hsp5, hsd5⟩, ⟨hsr6, hsp6, hsd6⟩, ⟨hsr7, hsp7, hsd7⟩, ⟨hsr12, hsp12, hsd12⟩⟩ := hS00
  have hPb : ∀ m, 0 ≤ m → m < T 1 → 0 ≤ gRP T N m ∧ gRP T N m ≤ gOf N m 1 := by
    intro m hm hm2
    have h1 := gPaid_bd (P := fun _ => 0) hT hN hb.2 m hm hm2
    have h2 := gBid_rng hN hm hm2
    exact ⟨h1.1, by unfold gRP gRw gRp; omega⟩
  have hSn := sr_note (l := gRw T N) (c := gRp T N) (m := gRb T N) hT1.2 (by omega) hN108 hS
  rw [show w32 (h b 13 + 1) = h b 13 + 1 from w32_id (by omega) (by omega)] at hSn
  have tail : ∀ H : PF, (∀ a, a < b ∨ b + 9 < a → H a = h a) → StRel H b T (gRs T N) → Wp 67 0 [some (pR b), some (pR p)] [] LY nx (H, r, s) (Kc 10 80 [some (pR 9), some (pR p), some (pR b), none] 83 [] Q) ∧ ∀ x, Wp 67 0 [some (pR b), some (pR p)] [] LY nx (H, r, s) (Kc 10 80 [some (pR 9), some (pR p), some (pR b), x] 83 [] Q) := by
    intro H hf hSs
    have s3 : gRs T N 3 ≤ 60 := by
      rw [hgk.2 3 (by omega) (by omega) (by omega) (by omega) (by omega)]
      have w3 : gRW T N 3 = N 3 := gWrites_lo (by omega)
      split
      · rw [w3]; omega
      · unfold gSay0; rw [up1_s, w3]; omega
    have s108 : gRs T N 108 ≤ 20 := by
      have w108 : gRW T N 108 ≤ 20 := by
        unfold gRW gWrites
        rw [if_neg (by omega), if_neg (by omega), if_neg (by omega), if_neg (by omega), if_neg (by omega), if_pos rfl]
        split
        · rw [w32_id (by omega) (by omega)]; omega
        · rw [w32_id (by omega) (by omega)]; omega
      rw [hgk.2 108 (by omega) (by omega) (by omega) (by omega) (by omega)]
      have w3 : gRW T N 3 = N 3 := gWrites_lo (by omega)
      split
      · exact w108
      · unfold gSay0; rw [up1_k (by omega), up1_k (by omega)]; exact w108
    have s2 : gRs T N 2 = N 2 := by
      rw [hgk.2 2 (by omega) (by omega) (by omega) (by omega) (by omega)]
      have w2 : gRW T N 2 = N 2 := gWrites_lo (by omega)
      have w3 : gRW T N 3 = N 3 := gWrites_lo (by omega)
      split
      · exact w2
      · unfold gSay0; rw [up1_k (by omega), up1_k (by omega)]; exact w2
    have hx : ∀ x, Wp 67 0 [some (pR b), some (pR p)] [] LY nx (H, r, s) (Kc 10 80 [some (pR 9), some (pR p), some (pR b), x] 83 [] Q) := by
      intro x
      refine C_endRound hP hS0 hT s108 (pr_fr (fun a h3 h4 => hf a (by omega)) hR) hSs hpb s3 hgk.1 (fun hz => by rw [s2]; exact ⟨hN2.1, hN2.2 hz⟩) (fun h' hf' hS' => ?_)
      simp (disch := first | assumption | omega) only [st_X0_carryOut, ↓if_pos, ↓if_neg, if_pos, if_neg, ↓reduceIte, true_and, and_true, false_and, and_false, true_or, or_true, false_or, or_false, w32_id, Kv, Kn, fup_s, fup_a, fup_k, fup_fup, Int.reduceAdd, Int.reduceSub, Int.reduceMul, Int.reduceNeg]
      exact K h' (fun a ha => by rw [hf' a ha, hf a ha]) hS'
    exact ⟨hx none, hx⟩
  simp (disch := first | assumption | omega) only [st_X0_carryOut, ↓if_pos, ↓if_neg, if_pos, if_neg, ↓reduceIte, true_and, and_true, false_and, and_false, true_or, or_true, false_or, or_false, w32_id, Kv, Kn, fup_s, fup_a, fup_k, fup_fup, Int.reduceAdd, Int.reduceSub, Int.reduceMul, Int.reduceNeg, f95, f96, f97, S_note]
  generalize hH1 : fup (fup (fup (fup (fup (fup h (b + 9) (h b 14 * 4) (gRw T N)) (b + 9) (h b 14 * 4 + 1) (gRp T N)) (b + 9) (h b 14 * 4 + 2) (gRb T N)) (b + 9) (h b 14 * 4 + 3) (h b 9)) b 14 (if h b 14 + 1 < 20 then h b 14 + 1 else 0)) b 13 (if 20 < h b 13 + 1 then 20 else h b 13 + 1) = H1 at hSn ⊢
  have hf1 : ∀ a, a < b ∨ b + 9 < a → H1 a = h a := by
    intro a haa
    rw [← hH1, fup_r (by omega), fup_r (by omega), fup_r (by omega), fup_r (by omega), fup_r (by omega), fup_r (by omega)]
  have e9 : H1 9 = h 9 := hf1 9 (by omega)
  have e12 : H1 12 = h 12 := hf1 12 (by omega)
  have ep := hf1 p (by omega)
  have ep1 : H1 p 1 = T 1 := by rw [ep]; exact hR.1.2.1
  clear hH1
  have g95 : H1 9 5 = gRw T N := by rw [e9]; exact f95
  have g97 : H1 9 7 = gRb T N := by rw [e9]; exact f97
  have hAcc := hS1.2.2.2.2.2.2.2
  by_cases hw : gRw T N = -1
  · have hPz : ∀ m, 0 ≤ m → m < T 1 → gRP T N m = 0 := by
      intro m hm hm2
      have h1 := gPaid_bd (P := fun _ => 0) hT hN hb.2 m hm hm2
      have hz : gRP T N = (upto (gPd1F T N (gRw T N) (gRp T N)) 4 ((fun _ => 0), gRp T N)).1 := by
        have hp0 : gRp T N = 0 := by
          rcases hb.2 with z | z
          · exact z.2
          · exact absurd hw z.1
        show (gPasses T N (gRw T N) (gRp T N).toNat (upto (gPd1F T N (gRw T N) (gRp T N)) 4 ((fun _ => 0), gRp T N))).1 = _
        rw [show (gRp T N).toNat = 0 from by omega]
        rfl
      rw [hz]
      have e := (gPd1_eq (T := T) (N := N) (w := gRw T N) (pr := gRp T N) (P := fun _ => 0) 4).2 m.toNat (by omega)
      rw [Int.toNat_of_nonneg hm] at e
      rw [e]
      unfold gPd
      rw [if_neg (fun z => z.2.1 hw)]
    have hra : gRa T N = gRW T N := by
      have key : ∀ n : Nat, (n : Int) ≤ T 1 → upto (gPayF (gRP T N)) n (gRW T N) = gRW T N := by
        intro n
        induction n with
        | zero => exact fun _ => rfl
        | succ n ih =>
          intro hn
          show gPayF (gRP T N) n (upto (gPayF (gRP T N)) n (gRW T N)) = gRW T N
          rw [ih (by omega)]
          unfold gPayF gChest
          rw [hPz n (by omega) (by omega)]
          simp only [Int.sub_zero, Int.add_zero]
          have w189 : gRW T N 189 = N 189 := gWrites_lo (by omega)
          funext j
          unfold up1
          by_cases z1 : j = 189
          · rw [if_pos z1, z1, w189]; exact hAcc.2
          · rw [if_neg z1]
            by_cases z2 : j = 1
            · rw [if_pos z2, z2]
            · rw [if_neg z2]
              by_cases z3 : j = 64 + 11 * (n : Int) + 1
              · rw [if_pos z3, z3]; rfl
              · rw [if_neg z3]
      exact key _ (by omega)
    have hrs : gRs T N = up1 (gRW T N) (189 + 5) (w32 (gRW T N (189 + 5) + 1)) := by
      unfold gRs
      rw [if_pos hw, hra]
      rfl
    have e85 : h (b + 8) 5 = gWrites N (gRw T N) (gRp T N) (gRb T N) (189 + 5) := by
      rw [gWrites_lo (by omega)]
      exact hS.2.2.1 5 (by omega) (by omega)
    have t := (tail (fup H1 (b + 8) 5 (w32 (h (b + 8) 5 + 1))) (fun a haa => by rw [fup_r (by omega)]; exact hf1 a haa) (by
      rw [hrs, e85]
      exact sr_acc hT1.2 (by have w3 : gRW T N 3 = N 3 := gWrites_lo (by omega)
                             rw [w3]; omega) (by
        unfold gRW gWrites
        rw [if_neg (by omega), if_neg (by omega), if_neg (by omega), if_neg (by omega), if_neg (by omega), if_pos rfl]
        split
        · rw [w32_id (by omega) (by omega)]; omega
        · rw [w32_id (by omega) (by omega)]; omega) (by omega) (by omega) (fun z => by rcases z with z | z <;> omega) hSn)).1
    simp (disch := first | assumption | omega) only [st_X0_carryOut, ↓if_pos, ↓if_neg, if_pos, if_neg, ↓reduceIte, true_and, and_true, false_and, and_false, true_or, or_true, false_or, or_false, w32_id, Kv, Kn, fup_s, fup_a, fup_k, fup_fup, Int.reduceAdd, Int.reduceSub, Int.reduceMul, Int.reduceNeg, g95, hw, if_pos hw]
    exact t
  · have hwr : 0 ≤ gRw T N ∧ gRw T N < T 0 := by
      rcases hb.1 with z | z
      · exact absurd z hw
      · exact z
    have hrs : gRs T N = gSays T (gRa T N) (gRw T N) (gRb T N) := by unfold gRs; rw [if_neg hw]
    simp (disch := first | assumption | omega) only [st_X0_carryOut, ↓if_pos, ↓if_neg, if_pos, if_neg, ↓reduceIte, true_and, and_true, false_and, and_false, true_or, or_true, false_or, or_false, w32_id, Kv, Kn, fup_s, fup_a, fup_k, fup_fup, Int.reduceAdd, Int.reduceSub, Int.reduceMul, Int.reduceNeg, g95, if_neg hw]
    have hr1 := fun n hn => gR1_ok (w := gRw T N) (pr := gRp T N) (b := gRb T N) (P := gRP T N) hT (wn_wm hN) hPb n hn
    refine loopW (Inv := fun i L H R => L = [some (pR 9), some (pR p), some (pR b), some (pI i)] ∧ R = r ∧ (∀ a, a < b ∨ b + 9 < a → H a = h a) ∧ StRel H b T (upto (gPayF (gRP T N)) i.toNat (gWrites N (gRw T N) (gRp T N) (gRb T N)))) (a := 0) (n := T 1) (by omega) ?_ ?_ _ _ _ ⟨rfl, rfl, hf1, hSn⟩
    · rintro i L H R hi hi2 ⟨rfl, rfl, hf, hSi⟩ hK
      have hri := hr1 i.toNat (by omega)
      have hMi := wm_ok hri.1 hi hi2
      have hM1 := hMi.2.1
      have hMc := hMi.2.2.2
      have hpb' := hPb i hi hi2
      have hci := wm_coins (wn_wm hN) hi hi2
      have k3 : upto (gPayF (gRP T N)) i.toNat (gWrites N (gRw T N) (gRp T N) (gRb T N)) 3 = N 3 := by rw [hri.2.2 3 (by omega) (by omega) (by omega)]; exact gWrites_lo (by omega)
      have k108 : upto (gPayF (gRP T N)) i.toNat (gWrites N (gRw T N) (gRp T N) (gRb T N)) 108 ≤ 20 := by
        rw [hri.2.2 108 (by omega) (by omega) (by omega)]
        unfold gWrites
        rw [if_neg (by omega), if_neg (by omega), if_neg (by omega), if_neg (by omega), if_neg (by omega), if_pos rfl]
        split
        · rw [w32_id (by omega) (by omega)]; omega
        · rw [w32_id (by omega) (by omega)]; omega
      have hKK := fun H' (h1 : ∀ a, a < b ∨ b + 9 < a → H' a = h a) (h2 : StRel H' b T (gPayF (gRP T N) i (upto (gPayF (gRP T N)) i.toNat (gWrites N (gRw T N) (gRp T N) (gRb T N))))) => hK [some (pR 9), some (pR p), some (pR b), some (pI (i + 1))] H' R ⟨rfl, rfl, h1, by rw [upto_s hi]; exact h2⟩
      clear hK
      generalize upto (gPayF (gRP T N)) i.toNat (gWrites N (gRw T N) (gRp T N) (gRb T N)) = Ni at *
      have ep1i : H p 1 = T 1 := by rw [hf p (by omega)]; exact hR.1.2.1
      have f12i : H 12 i = gRP T N i := by rw [hf 12 (by omega)]; exact f12 i hi hi2
      rw [sh_X0_carryOut_39]
      simp (disch := first | assumption | omega) only [st_X0_carryOut, ↓if_pos, ↓if_neg, if_pos, if_neg, ↓reduceIte, true_and, and_true, false_and, and_false, true_or, or_true, false_or, or_false, w32_id, Kv, Kn, fup_s, fup_a, fup_k, fup_fup, Int.reduceAdd, Int.reduceSub, Int.reduceMul, Int.reduceNeg, ep1i, f12i]
      refine C_pay hS0 hT1.2 (by rw [k3]; omega) k108 hSi hi hi2 (by omega) (by omega) (by omega) (by omega) (by omega) (fun h' hf' hS' => ?_)
      simp (disch := first | assumption | omega) only [st_X0_carryOut, ↓if_pos, ↓if_neg, if_pos, if_neg, ↓reduceIte, true_and, and_true, false_and, and_false, true_or, or_true, false_or, or_false, w32_id, Kv, Kn, fup_s, fup_a, fup_k, fup_fup, Int.reduceAdd, Int.reduceSub, Int.reduceMul, Int.reduceNeg]
      exact hKK h' (fun a haa => by rw [hf' a haa, hf a haa]) hS'
    · rintro L H R ⟨rfl, rfl, hf, hSi⟩
      have ea : upto (gPayF (gRP T N)) (T 1).toNat (gWrites N (gRw T N) (gRp T N) (gRb T N)) = gRa T N := rfl
      rw [ea] at hSi
      have ep1i : H p 1 = T 1 := by rw [hf p (by omega)]; exact hR.1.2.1
      have f95i : H 9 5 = gRw T N := by rw [hf 9 (by omega)]; exact f95
      have f97i : H 9 7 = gRb T N := by rw [hf 9 (by omega)]; exact f97
      have e3 : gRa T N 3 = N 3 := by rw [ha.2.1 3 (by omega) (by omega) (by omega)]; exact gWrites_lo (by omega)
      have e108 : gRa T N 108 ≤ 20 := by
        rw [ha.2.1 108 (by omega) (by omega) (by omega)]
        unfold gWrites
        rw [if_neg (by omega), if_neg (by omega), if_neg (by omega), if_neg (by omega), if_neg (by omega), if_pos rfl]
        split
        · rw [w32_id (by omega) (by omega)]; omega
        · rw [w32_id (by omega) (by omega)]; omega
      rw [sh_X0_carryOut_39]
      simp (disch := first | assumption | omega) only [st_X0_carryOut, ↓if_pos, ↓if_neg, if_pos, if_neg, ↓reduceIte, true_and, and_true, false_and, and_false, true_or, or_true, false_or, or_false, w32_id, Kv, Kn, fup_s, fup_a, fup_k, fup_fup, Int.reduceAdd, Int.reduceSub, Int.reduceMul, Int.reduceNeg, ep1i, f95i, f97i]
      refine C_tell hW hP hS0 hT e108 (pr_fr (fun a h3 h4 => hf a (by omega)) hR) hSi hpb ha.1 (by omega) hwr.1 hwr.2 ha.2.2 (fun h' hf' hS' => ?_)
      simp (disch := first | assumption | omega) only [st_X0_carryOut, ↓if_pos, ↓if_neg, if_pos, if_neg, ↓reduceIte, true_and, and_true, false_and, and_false, true_or, or_true, false_or, or_false, w32_id, Kv, Kn, fup_s, fup_a, fup_k, fup_fup, Int.reduceAdd, Int.reduceSub, Int.reduceMul, Int.reduceNeg]
      exact (tail h' (fun a haa => by rw [hf' a haa, hf a haa]) (by rw [hrs]; exact hS')).2 _
