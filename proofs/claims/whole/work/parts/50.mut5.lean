theorem C_tell {p b l k : Int} {T N : Int → Int} {nx : Nat} {h r : PF} {s : Int → Int} {Q : PO → PY → Nat → PC → Prop} (hW : WFr r) (hP : PlOk r p) (hS0 : StOk r b) (hT : TWf T) (h108 : N 108 ≤ 20) (hR : PlanRel h p T) (hS : StRel h b T N) (hpb : p + 6 < b ∨ b + 9 < p) (hM : MWf T N) (h3 : 0 ≤ N 3 ∧ N 3 < 60) (hl : 0 ≤ l) (hl2 : l < T 0) (hc : ∀ m, 0 ≤ m → m < T 1 → pand (pshr k m) 1 = 1 → 0 ≤ gTo T N m l ∧ ¬ (0 < gS T m (gTo T N m l) 1 ∧ gOf N m (5 + (gTo T N m l)) = 0)) (K : ∀ h' : PF, (∀ a, a < b ∨ b + 9 < a → h' a = h a) → StRel h' b T (gSays T N l k) → Q (Sum.inl none) LY nx (h', r, s)) : Wp 61 0 [some (pR b), some (pR p), some (pI l), some (pI k), none] [] LY nx (h, r, s) Q := by
  have hT0 := hT.1
  have hT1 := hT.2.1
  have e8 := hS.1.1
  have hP0 := hP.1.1
  have hPk := hP.1.2
  have hS00 := hS0
  obtain ⟨⟨hs0, hsk⟩, ⟨hsr0, hsp0, hsd0⟩, ⟨hsr1, hsp1, hsd1⟩, ⟨hsr2, hsp2, hsd2⟩, ⟨hsr3, hsp3, hsd3⟩, ⟨hsr4, hsp4, hsd4⟩, ⟨hsr5, hsp5, hsd5⟩, ⟨hsr6, hsp6, hsd6⟩, ⟨hsr7, hsp7, hsd7⟩, ⟨hsr12, hsp12, hsd12⟩⟩ := hS00
  simp (disch := first | assumption | omega) only [st_X5_tell, st_X5_isFull, ↓if_pos, ↓if_neg, if_pos, if_neg, ↓reduceIte, true_and, and_true, false_and, and_false, true_or, or_true, false_or, or_false, w32_id, Kv, Kn, fup_s, fup_a, fup_k, fup_fup, Int.reduceAdd, Int.reduceSub, Int.reduceMul, Int.reduceNeg, e8]
  have hs0' := sr_say0 (l := l) hT1.2 h3 h108 hS
  have hM0 : MWf T (gSay0 N l) := wm_out hT (wm_out hT hM (by omega) (by omega)) (by omega) (by omega)
  refine loopW (Inv := fun i L H R => ∃ Ni, L = [some (pR b), some (pR p), some (pI l), some (pI k), some (pI i)] ∧ R = r ∧ (∀ a, a < b ∨ b + 9 < a → H a = h a) ∧ StRel H b T Ni ∧ Ni = upto (gSayF T l k) i.toNat (gSay0 N l) ∧ MWf T Ni ∧ Ni 3 = N 3 + 1 ∧ Ni 108 ≤ 20 ∧ ∀ m, i ≤ m → m < T 1 → ∀ w, 0 ≤ w → w < 11 → gOf Ni m w = gOf N m w) (a := 0) (n := T 1) (by omega) ?_ ?_ _ _ _ ⟨gSay0 N l, rfl, rfl, fun a ha => by rw [fup_r (by omega), fup_r (by omega)], hs0', rfl, hM0, up1_s, by unfold gSay0; rw [up1_k (by omega), up1_k (by omega)]; exact h108, fun m hm hm2 w hw hw2 => by unfold gSay0; rw [gOf_k (by omega), gOf_k (by omega)]⟩
  · rintro i L H R hi hi2 ⟨Ni, rfl, rfl, hf, hSi, hNi, hMi, hn3, hn108, hu⟩ hK
    have hRi : PlanRel H p T := pr_fr (fun a h1 h2 => hf a (by omega)) hR
    have ep1 := hRi.1.2.1
    have ebl := (hRi.2 i hi hi2).1.2.2.2.1
    have hci : ∀ (m : Int), m = i → pand (pshr k m) 1 = 1 → 0 ≤ gTo T Ni m l ∧ ¬ (0 < gS T m (gTo T Ni m l) 1 ∧ gOf Ni m (5 + (gTo T Ni m l)) = 0) := by
      intro m hm hb
      subst hm
      have h1 := hc m hi hi2 hb
      have e0 : gTo T Ni m l = gTo T N m l := by unfold gTo; rw [hu m (by omega) hi2 0 (by omega) (by omega)]
      have hg := gTo_rng hT hM hi hi2 hl (show l < 4 by omega)
      rw [e0, hu m (by omega) hi2 _ (by omega) (by omega)]
      exact h1
    have hgi := gTo_rng hT hMi hi hi2 hl (show l < 4 by omega)
    have keep : ∀ k', k' = 3 ∨ k' = 108 → gSayF T l k i Ni k' = Ni k' := by
      intro k' hk'
      have he : 0 ≤ gTo T Ni i l → gEnters T Ni i l k' = Ni k' := by
        intro h0
        unfold gEnters gEnter0
        split
        · rw [up1_k (by omega), up1_k (by omega), up1_k (by omega)]
        · rw [up1_k (by omega), up1_k (by omega)]
      unfold gSayF gHears
      by_cases hb : pand (pshr k i) 1 = 1
      · rw [if_pos hb]; exact he (hci i rfl hb).1
      · rw [if_neg hb]
        split
        · split
          · rename_i hz; exact he hz.1
          · unfold gBalk gChest
            rw [up1_k (by omega), up1_k (by omega), up1_k (by omega), up1_k (by omega)]
        · rfl
    have hKK : ∀ H' : PF, (∀ a, a < b ∨ b + 9 < a → H' a = h a) → StRel H' b T (gSayF T l k i Ni) → Wp 61 31 [some (pR b), some (pR p), some (pI l), some (pI k), some (pI (i + 1))] [] LY nx (H', R, s) Q := fun H' h1 h2 => hK _ _ _ ⟨gSayF T l k i Ni, rfl, rfl, h1, h2, by rw [upto_s hi, ← hNi], wm_sayF hT hMi hi hi2 hl (by omega) (hci i rfl), by rw [keep 3 (Or.inl rfl)]; exact hn3, by rw [keep 108 (Or.inr rfl)]; exact hn108, fun m hm hm2 w hw hw2 => by rw [gSayF_o hT hMi hi hi2 hl (by omega) (hci i rfl) (by omega) (by omega) (by omega) hw hw2]; exact hu m (by omega) hm2 w hw hw2⟩
    clear hK
    have rd : gSayF T l k i Ni = gHears T Ni i l → Wp 62 0 [some (pR b), some (pR p), some (pI i), some (pI l)] [] LY nx (H, R, s) (Kc 61 64 [some (pR b), some (pR p), some (pI l), some (pI k), some (pI i)] 67 [] Q) := by
      intro hg
      refine C_read hW hP hS0 hT (by omega) hn108 hRi hSi hpb hi hi2 hMi hl (by omega) (fun h' hf' hS' => ?_)
      simp (disch := first | assumption | omega) only [st_X5_tell, ↓if_pos, ↓if_neg, if_pos, if_neg, ↓reduceIte, true_and, and_true, false_and, and_false, true_or, or_true, false_or, or_false, w32_id, Kv, Kn, fup_s, fup_a, fup_k, fup_fup, Int.reduceAdd, Int.reduceSub, Int.reduceMul, Int.reduceNeg]
      exact hKK h' (fun a ha => by rw [hf' a ha, hf a ha]) (by rw [hg]; exact hS')
    rw [sh_X5_tell_31]
    by_cases hb : pand (pshr k i) 1 = 1
    · have hg : gSayF T l k i Ni = gHears T Ni i l := by unfold gSayF gHears; rw [if_pos hb, if_pos (hci i rfl hb)]
      simp (disch := first | assumption | omega) only [st_X5_tell, ↓if_pos, ↓if_neg, if_pos, if_neg, ↓reduceIte, true_and, and_true, false_and, and_false, true_or, or_true, false_or, or_false, w32_id, Kv, Kn, fup_s, fup_a, fup_k, fup_fup, Int.reduceAdd, Int.reduceSub, Int.reduceMul, Int.reduceNeg, ep1, hb]
      exact rd hg
    · by_cases ho : gO T i 3 = 1
      · have hg : gSayF T l k i Ni = gHears T Ni i l := by unfold gSayF; rw [if_neg hb, if_pos ho]
        simp (disch := first | assumption | omega) only [st_X5_tell, ↓if_pos, ↓if_neg, if_pos, if_neg, ↓reduceIte, true_and, and_true, false_and, and_false, true_or, or_true, false_or, or_false, w32_id, Kv, Kn, fup_s, fup_a, fup_k, fup_fup, Int.reduceAdd, Int.reduceSub, Int.reduceMul, Int.reduceNeg, ep1, if_neg hb, C_isListening hP, if_pos (ebl.mpr ho)]
        exact rd hg
      · have hg : gSayF T l k i Ni = Ni := by unfold gSayF; rw [if_neg hb, if_neg ho]
        simp (disch := first | assumption | omega) only [st_X5_tell, ↓if_pos, ↓if_neg, if_pos, if_neg, ↓reduceIte, true_and, and_true, false_and, and_false, true_or, or_true, false_or, or_false, w32_id, Kv, Kn, fup_s, fup_a, fup_k, fup_fup, Int.reduceAdd, Int.reduceSub, Int.reduceMul, Int.reduceNeg, ep1, if_neg hb, C_isListening hP, if_neg (fun z => ho (ebl.mp z))]
        exact hKK H hf (by rw [hg]; exact hSi)
  · rintro L H R ⟨Ni, rfl, rfl, hf, hSi, hNi, hMi, hn3, hn108, hu⟩
    have hRi : PlanRel H p T := pr_fr (fun a h1 h2 => hf a (by omega)) hR
    have ep1 := hRi.1.2.1
    rw [sh_X5_tell_31]
    simp (disch := first | assumption | omega) only [st_X5_tell, ↓if_pos, ↓if_neg, if_pos, if_neg, ↓reduceIte, true_and, and_true, false_and, and_false, true_or, or_true, false_or, or_false, w32_id, Kv, Kn, fup_s, fup_a, fup_k, fup_fup, Int.reduceAdd, Int.reduceSub, Int.reduceMul, Int.reduceNeg, ep1]
    rw [hNi] at hSi
    exact K H hf hSi
