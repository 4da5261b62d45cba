theorem C_takeTurn {p b : Int} {T N : Int → Int} {nx : Nat} {h r : PF} {s : Int → Int} {Q : PO → PY → Nat → PC → Prop} (hP : PlOk r p) (hS0 : StOk r b) (hT : TWf T) (h108 : N 108 ≤ 20) (hR : PlanRel h p T) (hS : StRel h b T N) (hpb : p + 6 < b ∨ b + 9 < p) (h60 : N 3 ≤ 60) (hM : MWf T N) (h2 : 0 ≤ N 2 ∧ N 2 < T 1) (K : ∀ h' : PF, (∀ a, a < b ∨ b + 9 < a → h' a = h a) → StRel h' b T (gTurn2 T N) → Q (Sum.inl none) LY nx (h', r, s)) : Wp 68 0 [some (pR b), some (pR p)] [] LY nx (h, r, s) Q := by
  have hT1 := hT.2.1
  have hT3 := hT.2.2.2.1
  have hMo := wm_ok hM h2.1 h2.2
  have hM1 := hMo.2.1
  have hMc := hMo.2.2.2
  have e11 := hS.1.2.2.2.1
  have ec := (st_m hS h2.1 h2.2).2.1
  have ep1 := hR.1.2.1
  have ep4 := hR.1.2.2.2.1
  have hP0 := hP.1.1
  have hPk := hP.1.2
  have hS00 := hS0
  obtain ⟨⟨hs0, hsk⟩, ⟨hsr0, hsp0, hsd0⟩, ⟨hsr1, hsp1, hsd1⟩, ⟨hsr2, hsp2, hsd2⟩, ⟨hsr3, hsp3, hsd3⟩, ⟨hsr4, hsp4, hsd4⟩, ⟨hsr5, hsp5, hsd5⟩, ⟨hsr6, hsp6, hsd6⟩, ⟨hsr7, hsp7, hsd7⟩, ⟨hsr12, hsp12, hsd12⟩⟩ := hS00
  have epm : prem (N 2 + 1) (T 1) = if N 2 + 1 < T 1 then N 2 + 1 else 0 := by
    rw [prem_nn (by omega) (by omega) (by omega) (by omega)]
    by_cases hz : N 2 + 1 < T 1
    · rw [if_pos hz, Int.emod_eq_of_lt (by omega) hz]
    · rw [if_neg hz, show N 2 + 1 = T 1 from by omega, Int.emod_self]
  have h3t : gTurn1 T N 3 = N 3 := by
    unfold gTurn1
    split
    · rw [gFresh_o (by omega)]; unfold gChest; rw [up1_k (by omega), up1_k (by omega), up1_k (by omega)]
    · rfl
  have main : ∀ H : PF, (∀ a, a < b ∨ b + 9 < a → H a = h a) → StRel H b T (gTurn1 T N) → H b 11 = N 2 → Wp 68 29 [some (pR b), some (pR p)] [] LY nx (H, r, s) Q := by
    intro H hf hS1 h11
    have ep1' : H p 1 = T 1 := by rw [hf p (by omega)]; exact ep1
    have hK := fun v => K (fup H b 11 v) (fun a ha => by rw [fup_r (by omega)]; exact hf a ha)
    have hfin := fun v => sr_f11 (v := v) hT1.2 (by rw [h3t]; exact h60) hS1
    unfold gTurn2 at hK
    rw [epm] at hK
    by_cases hz : N 2 + 1 < T 1
    · rw [if_pos hz] at hK
      simp (disch := first | assumption | omega) only [st_X5_takeTurn, ↓if_pos, ↓if_neg, if_pos, if_neg, ↓reduceIte, true_and, and_true, false_and, and_false, true_or, or_true, false_or, or_false, w32_id, Kv, Kn, fup_s, fup_a, fup_k, fup_fup, Int.reduceAdd, Int.reduceSub, Int.reduceMul, Int.reduceNeg, h11, ep1']
      exact hK _ (hfin _)
    · rw [if_neg hz] at hK
      simp (disch := first | assumption | omega) only [st_X5_takeTurn, ↓if_pos, ↓if_neg, if_pos, if_neg, ↓reduceIte, true_and, and_true, false_and, and_false, true_or, or_true, false_or, or_false, w32_id, Kv, Kn, fup_s, fup_a, fup_k, fup_fup, Int.reduceAdd, Int.reduceSub, Int.reduceMul, Int.reduceNeg, h11, ep1']
      exact hK _ (hfin _)
  simp (disch := first | assumption | omega) only [st_X5_takeTurn, ↓if_pos, ↓if_neg, if_pos, if_neg, ↓reduceIte, true_and, and_true, false_and, and_false, true_or, or_true, false_or, or_false, w32_id, Kv, Kn, fup_s, fup_a, fup_k, fup_fup, Int.reduceAdd, Int.reduceSub, Int.reduceMul, Int.reduceNeg, e11, ec, ep4]
  by_cases hz : T 3 ≤ gOf N (N 2) 1
  · have e1 : gTurn1 T N = gFresh T (gChest N (N 2) (T 3) 3) (N 2) := by unfold gTurn1; rw [if_pos hz]
    rw [if_neg (by omega)]
    refine C_payForReset hP hS0 hT h60 h108 hR hS hpb h2.1 h2.2 (by omega) (by omega) (by omega) (fun h' hf hS' => ?_)
    have e12 : gFresh T (gChest N (N 2) (T 3) 3) (N 2) 2 = N 2 := by rw [gFresh_o (by omega)]; unfold gChest; rw [up1_k (by omega), up1_k (by omega), up1_k (by omega)]
    have := main h' hf (by rw [e1]; exact hS') (by rw [hS'.1.2.2.2.1]; exact e12)
    simp (disch := first | assumption | omega) only [st_X5_takeTurn, ↓if_pos, ↓if_neg, if_pos, if_neg, ↓reduceIte, true_and, and_true, false_and, and_false, true_or, or_true, false_or, or_false, w32_id, Kv, Kn, fup_s, fup_a, fup_k, fup_fup, Int.reduceAdd, Int.reduceSub, Int.reduceMul, Int.reduceNeg] at this ⊢
    exact this
  · have e1 : gTurn1 T N = N := by unfold gTurn1; rw [if_neg hz]
    rw [if_pos (by omega)]
    have := main h (fun a _ => rfl) (by rw [e1]; exact hS) e11
    simp (disch := first | assumption | omega) only [st_X5_takeTurn, ↓if_pos, ↓if_neg, if_pos, if_neg, ↓reduceIte, true_and, and_true, false_and, and_false, true_or, or_true, false_or, or_false, w32_id, Kv, Kn, fup_s, fup_a, fup_k, fup_fup, Int.reduceAdd, Int.reduceSub, Int.reduceMul, Int.reduceNeg, e11, ep1] at this ⊢
    exact this
