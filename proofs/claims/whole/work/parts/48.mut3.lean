theorem C_payForReset {p b m c : Int} {T N : Int → Int} {nx : Nat} {h r : PF} {s : Int → Int} {Q : PO → PY → Nat → PC → Prop} (hP : PlOk r p) (hS0 : StOk r b) (hT : TWf T) (h60 : N 3 ≤ 60) (h108 : N 108 ≤ 20) (hR : PlanRel h p T) (hS : StRel h b T N) (hpb : p + 6 < b ∨ b + 9 < p) (hm : 0 ≤ m) (hm2 : m < T 1) (hc : 0 ≤ c ∧ c ≤ 10000) (h1 : -10000 ≤ gOf N m 1 ∧ gOf N m 1 ≤ 10000) (h2 : 0 ≤ N 1 ∧ N 1 ≤ 10000) (K : ∀ h' : PF, (∀ a, a < b ∨ b + 9 < a → h' a = h a) → StRel h' b T (gFresh T (gChest N m c 3) m) → Q (Sum.inl none) LY nx (h', r, s)) : Wp 65 0 [some (pR b), some (pR p), some (pI m), some (pI c)] [] LY nx (h, r, s) Q := by
  have hT1 := hT.2.1
  have hS00 := hS0
  obtain ⟨⟨hs0, hsk⟩, ⟨hsr0, hsp0, hsd0⟩, ⟨hsr1, hsp1, hsd1⟩, ⟨hsr2, hsp2, hsd2⟩, ⟨hsr3, hsp3, hsd3⟩, ⟨hsr4, hsp4, hsd4⟩, ⟨hsr5, hsp5, hsd5⟩, ⟨hsr6, hsp6, hsd6⟩, ⟨hsr7, hsp7, hsd7⟩, ⟨hsr12, hsp12, hsd12⟩⟩ := hS00
  simp (disch := first | assumption | omega) only [st_X5_payForReset, ↓if_pos, ↓if_neg, if_pos, if_neg, ↓reduceIte, true_and, and_true, false_and, and_false, true_or, or_true, false_or, or_false, w32_id, Kv, Kn, fup_s, fup_a, fup_k, fup_fup, Int.reduceAdd, Int.reduceSub, Int.reduceMul, Int.reduceNeg]
  refine C_pay hS0 hT1.2 h60 h108 hS hm hm2 (by omega) (by omega) hc h1 h2 (fun h' hf hS' => ?_)
  simp (disch := first | assumption | omega) only [st_X5_payForReset, ↓if_pos, ↓if_neg, if_pos, if_neg, ↓reduceIte, true_and, and_true, false_and, and_false, true_or, or_true, false_or, or_false, w32_id, Kv, Kn, fup_s, fup_a, fup_k, fup_fup, Int.reduceAdd, Int.reduceSub, Int.reduceMul, Int.reduceNeg]
  refine C_restart hP hS0 hT (by unfold gChest; rw [up1_k (by omega), up1_k (by omega), up1_k (by omega)]; exact h60) (pr_fr (fun a h3 h4 => hf a (by omega)) hR) hS' hpb hm hm2 (fun h2' hf2 hS2 => ?_)
  simp (disch := first | assumption | omega) only [st_X5_payForReset, ↓if_pos, ↓if_neg, if_pos, if_neg, ↓reduceIte, true_and, and_true, false_and, and_false, true_or, or_true, false_or, or_false, w32_id, Kv, Kn, fup_s, fup_a, fup_k, fup_fup, Int.reduceAdd, Int.reduceSub, Int.reduceMul, Int.reduceNeg]
  exact K _ (fun a ha => by rw [hf2 a ha, hf a ha]) hS2
theorem C_enter {b m t : Int} {T N : Int → Int} {nx : Nat} {h r : PF} {s : Int → Int} {Q : PO → PY → Nat → PC → Prop} (hS0 : StOk r b) (hT : TWf T) (h60 : N 3 ≤ 60) (hS : StRel h b T N) (hm : 0 ≤ m) (hm2 : m < T 1) (l : Int) (het : t = gTo T N m l) (ht : 0 ≤ t) (ht6 : t < 6) (hcg : ¬ (0 < gS T m t 1 ∧ gOf N m (5 + t) = 0)) (hst : 0 ≤ gOf N m (5 + t) ∧ gOf N m (5 + t) ≤ 99) (K : ∀ h' : PF, (∀ a, a < b ∨ b + 9 < a → h' a = h a) → StRel h' b T (gEnters T N m l) → Q (Sum.inl none) LY nx (h', r, s)) : Wp 63 0 [some (pR b), some (pI m), some (pI t), none] [] LY nx (h, r, s) Q := by
  have hT1 := hT.2.1
  have e0 := st_m hS hm hm2
  have e3 := e0.2.2.2.1
  have es := st_str hS m t hm hm2 ht ht6
  have hg0 := hT.2.2.2.2.1 (4 + 40 * m + (4 + 6 * t + 1)) (by omega) (by omega)
  have hgs : 0 ≤ gS T m t 1 := hg0.1
  have hS00 := hS0
  obtain ⟨⟨hs0, hsk⟩, ⟨hsr0, hsp0, hsd0⟩, ⟨hsr1, hsp1, hsd1⟩, ⟨hsr2, hsp2, hsd2⟩, ⟨hsr3, hsp3, hsd3⟩, ⟨hsr4, hsp4, hsd4⟩, ⟨hsr5, hsp5, hsd5⟩, ⟨hsr6, hsp6, hsd6⟩, ⟨hsr7, hsp7, hsd7⟩, ⟨hsr12, hsp12, hsd12⟩⟩ := hS00
  by_cases hg : gS T m t 1 = 0
  · rw [if_pos hg] at es
    simp (disch := first | assumption | omega) only [st_X5_enter, ↓if_pos, ↓if_neg, if_pos, if_neg, ↓reduceIte, true_and, and_true, false_and, and_false, true_or, or_true, false_or, or_false, w32_id, Kv, Kn, fup_s, fup_a, fup_k, fup_fup, Int.reduceAdd, Int.reduceSub, Int.reduceMul, Int.reduceNeg, e3, es]
    refine K _ (fun a ha => by rw [fup_r (by omega), fup_r (by omega)]) ?_
    unfold gEnters gEnter0
    rw [← het, if_neg (by omega)]
    exact sr_m3 hT1.2 (by rw [up1_k (by omega)]; exact h60) hm (by omega) (sr_m0 hT1.2 h60 hm (by omega) hS)
  · rw [if_neg hg] at es
    have hne : gOf N m (5 + t) ≠ 0 := fun z => hcg ⟨by omega, z⟩
    simp (disch := first | assumption | omega) only [st_X5_enter, ↓if_pos, ↓if_neg, if_pos, if_neg, ↓reduceIte, true_and, and_true, false_and, and_false, true_or, or_true, false_or, or_false, w32_id, Kv, Kn, fup_s, fup_a, fup_k, fup_fup, Int.reduceAdd, Int.reduceSub, Int.reduceMul, Int.reduceNeg, e3, es]
    refine K _ (fun a ha => by rw [fup_r (by omega), fup_r (by omega), fup_r (by omega)]) ?_
    unfold gEnters gEnter0
    rw [← het, if_pos (by omega)]
    have e9 : fup (fup (fup h (b + 6) (m * 6 + t) (gOf N m (5 + t) - 1)) (b + 1) m t) (b + 4) m (w32 (gOf N m 3 + 1)) = fup (fup (fup h (b + 1) m t) (b + 4) m (w32 (gOf N m 3 + 1))) (b + 6) (m * 6 + t) (gOf N m (5 + t) - 1) := by
      funext a' k'
      unfold fup
      (repeat' split) <;> first | rfl | (exfalso; omega)
    rw [e9]
    exact sr_str hT1.2 (by rw [up1_k (by omega), up1_k (by omega)]; exact h60) hm (by omega) ht ht6 hg (sr_m3 hT1.2 (by rw [up1_k (by omega)]; exact h60) hm (by omega) (sr_m0 hT1.2 h60 hm (by omega) hS))
theorem C_read {p b m l : Int} {T N : Int → Int} {nx : Nat} {h r : PF} {s : Int → Int} {Q : PO → PY → Nat → PC → Prop} (hW : WFr r) (hP : PlOk r p) (hS0 : StOk r b) (hT : TWf T) (h60 : N 3 ≤ 60) (h108 : N 108 ≤ 20) (hR : PlanRel h p T) (hS : StRel h b T N) (hpb : p + 6 < b ∨ b + 9 < p) (hm : 0 ≤ m) (hm2 : m < T 1) (hM : MWf T N) (hl : 0 ≤ l) (hl2 : l < 4) (K : ∀ h' : PF, (∀ a, a < b ∨ b + 9 < a → h' a = h a) → StRel h' b T (gHears T N m l) → Q (Sum.inl none) LY nx (h', r, s)) : Wp 62 0 [some (pR b), some (pR p), some (pI m), some (pI l)] [] LY nx (h, r, s) Q := by
  have hT1 := hT.2.1
  have hTm := (hT.2.2.2.2.2 m hm hm2).1
  have hMm := hM.1 m hm hm2
  have hg := gTo_rng hT hM hm hm2 hl hl2
  have hMo := wm_ok hM hm hm2
  have e0 := st_m hS hm hm2
  have e00 := e0.1
  have e01 := e0.2.1
  have e04 := e0.2.2.2.2
  have hP0 := hP.1.1
  have hPk := hP.1.2
  have hS00 := hS0
  obtain ⟨⟨hs0, hsk⟩, ⟨hsr0, hsp0, hsd0⟩, ⟨hsr1, hsp1, hsd1⟩, ⟨hsr2, hsp2, hsd2⟩, ⟨hsr3, hsp3, hsd3⟩, ⟨hsr4, hsp4, hsd4⟩, ⟨hsr5, hsp5, hsd5⟩, ⟨hsr6, hsp6, hsd6⟩, ⟨hsr7, hsp7, hsd7⟩, ⟨hsr12, hsp12, hsd12⟩⟩ := hS00
  unfold gHears at K
  by_cases hcg : 0 ≤ gTo T N m l ∧ ¬ (0 < gS T m (gTo T N m l) 1 ∧ gOf N m (5 + (gTo T N m l)) = 0)
  · rw [if_pos hcg] at K
    have hcx := hcg
    unfold gTo at hcx
    simp (disch := first | assumption | omega) only [st_X5_read, ↓if_pos, ↓if_neg, if_pos, if_neg, ↓reduceIte, true_and, and_true, false_and, and_false, true_or, or_true, false_or, or_false, w32_id, Kv, Kn, fup_s, fup_a, fup_k, fup_fup, Int.reduceAdd, Int.reduceSub, Int.reduceMul, Int.reduceNeg, D_canGo hP hS0 hT hR hS, if_pos hcg, e00, D_target hP hT hR]
    refine C_enter hS0 hT h60 hS hm hm2 l rfl hcg.1 (show gTo T N m l < 6 by omega) hcg.2 (hMm.2.2.2 _ hcg.1 (show gTo T N m l < 6 by omega)) (fun h' hf hS' => ?_)
    simp (disch := first | assumption | omega) only [st_X5_read, ↓if_pos, ↓if_neg, if_pos, if_neg, ↓reduceIte, true_and, and_true, false_and, and_false, true_or, or_true, false_or, or_false, w32_id, Kv, Kn, fup_s, fup_a, fup_k, fup_fup, Int.reduceAdd, Int.reduceSub, Int.reduceMul, Int.reduceNeg]
    exact K _ hf hS'
  · rw [if_neg hcg] at K
    unfold gBalk at K
    have hb4 := sr_m4 (v := w32 (gOf N m 4 + 1)) hT1.2 h60 hm (by omega) hS
    have hx1 : gOf (up1 N (64 + 11 * m + 4) (w32 (gOf N m 4 + 1))) m 1 = gOf N m 1 := gOf_k (by omega)
    have hx2 : up1 N (64 + 11 * m + 4) (w32 (gOf N m 4 + 1)) 1 = N 1 := up1_k (by omega)
    have hx3 : up1 N (64 + 11 * m + 4) (w32 (gOf N m 4 + 1)) 3 = N 3 := up1_k (by omega)
    have hmc := hMo.2.2.2
    have hm1c := hMo.2.1
    by_cases hc0 : 0 < gOf N m 1
    · rw [if_pos hc0] at K
      simp (disch := first | assumption | omega) only [st_X5_read, ↓if_pos, ↓if_neg, if_pos, if_neg, ↓reduceIte, true_and, and_true, false_and, and_false, true_or, or_true, false_or, or_false, w32_id, Kv, Kn, fup_s, fup_a, fup_k, fup_fup, Int.reduceAdd, Int.reduceSub, Int.reduceMul, Int.reduceNeg, D_canGo hP hS0 hT hR hS, if_neg hcg, e01, e04]
      refine C_pay hS0 hT1.2 (by rw [hx3]; exact h60) (by rw [up1_k (by omega)]; exact h108) hb4 hm hm2 (by omega) (by omega) (by omega) (by rw [hx1]; omega) (by rw [hx2]; omega) (fun h' hf hS' => ?_)
      simp (disch := first | assumption | omega) only [st_X5_read, ↓if_pos, ↓if_neg, if_pos, if_neg, ↓reduceIte, true_and, and_true, false_and, and_false, true_or, or_true, false_or, or_false, w32_id, Kv, Kn, fup_s, fup_a, fup_k, fup_fup, Int.reduceAdd, Int.reduceSub, Int.reduceMul, Int.reduceNeg]
      exact K _ (fun a ha => by rw [hf a ha, fup_r (by omega)]) hS'
    · rw [if_neg hc0] at K
      simp (disch := first | assumption | omega) only [st_X5_read, ↓if_pos, ↓if_neg, if_pos, if_neg, ↓reduceIte, true_and, and_true, false_and, and_false, true_or, or_true, false_or, or_false, w32_id, Kv, Kn, fup_s, fup_a, fup_k, fup_fup, Int.reduceAdd, Int.reduceSub, Int.reduceMul, Int.reduceNeg, D_canGo hP hS0 hT hR hS, if_neg hcg, e01, e04]
      refine K _ (fun a ha => by rw [fup_r (by omega)]) ?_
      have h0 : gOf N m 1 = 0 := by omega
      have e8 := hS.1.2.2.2.2.2.2.2.1
      have e : gChest (up1 N (64 + 11 * m + 4) (w32 (gOf N m 4 + 1))) m 0 2 = up1 N (64 + 11 * m + 4) (w32 (gOf N m 4 + 1)) := by
        unfold gChest
        rw [hx1, hx2, Int.sub_zero, Int.add_zero]
        funext j
        unfold up1
        (repeat' split) <;> first | rfl | (exfalso; omega) | skip
        all_goals first
          | (rename_i z1 z2 z3; rw [z1]; rw [show (189 + 2 : Int) = 191 from rfl]; simp only [Int.add_zero]; exact e8)
          | (simp_all; done)
          | (unfold gOf at *; simp_all; done)
      rw [e]
      exact hb4
