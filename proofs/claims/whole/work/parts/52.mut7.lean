/-- the chest while it is shared: n machines have theirs -/
def gShr (T N : Int → Int) (s : Int) : Nat → Int → Int
  | 0 => N
  | n + 1 => up1 (up1 (up1 (gShr T N s n) (64 + 11 * n + 1) (gOf (gShr T N s n) n 1 + s)) 1 (gShr T N s n 1 - s)) 193 (w32 (gShr T N s n 193 + s))
theorem w32_add {x y : Int} : w32 (w32 x + y) = w32 (x + y) := by
  unfold w32
  exact Int.bmod_add_bmod
theorem gShr_ok {T N : Int → Int} {s : Int} : ∀ n : Nat, n ≤ 4 → (∀ k, k ≠ 1 → k ≠ 193 → gShr T N s n k = upto (gTurnF s) n N k) ∧ gShr T N s n 1 = N 1 - n * s ∧ w32 (gShr T N s n 193) = w32 (N 193 + n * s)
  | 0, _ => ⟨fun k _ _ => rfl, by show N 1 = N 1 - ((0 : Nat) : Int) * s; rw [show ((0 : Nat) : Int) = 0 from rfl, Int.zero_mul]; omega, by show w32 (N 193) = w32 (N 193 + ((0 : Nat) : Int) * s); rw [show ((0 : Nat) : Int) = 0 from rfl, Int.zero_mul, Int.add_zero]⟩
  | n + 1, hn => by
    obtain ⟨i1, i2, i3⟩ := gShr_ok (T := T) (N := N) (s := s) n (by omega)
    have e : gShr T N s (n + 1) = up1 (up1 (up1 (gShr T N s n) (64 + 11 * n + 1) (gOf (gShr T N s n) n 1 + s)) 1 (gShr T N s n 1 - s)) 193 (w32 (gShr T N s n 193 + s)) := rfl
    have e2 : upto (gTurnF s) (n + 1) N = up1 (upto (gTurnF s) n N) (64 + 11 * n + 1) (gOf (upto (gTurnF s) n N) n 1 + s) := rfl
    have eo : gOf (gShr T N s n) n 1 = gOf (upto (gTurnF s) n N) n 1 := i1 _ (by omega) (by omega)
    have em : ((n + 1 : Nat) : Int) * s = n * s + s := by rw [show ((n + 1 : Nat) : Int) = (n : Int) + 1 from by omega, Int.add_mul, Int.one_mul]
    rw [e, e2]
    refine ⟨fun k hk hk2 => ?_, ?_, ?_⟩
    · rw [up1_k hk2, up1_k hk, eo]
      unfold up1
      rw [i1 k hk hk2]
    · rw [up1_k (by omega), up1_s, i2, em]; omega
    · rw [up1_s, w32_w32, ← w32_add, i3, w32_add, em]
      congr 1
      omega
theorem gShr_end {T N : Int → Int} {s : Int} (hT1 : 0 ≤ T 1 ∧ T 1 ≤ 4) (h0 : 0 < T 1) : gShr T N s (T 1).toNat = up1 (up1 (upto (gTurnF s) (T 1).toNat N) 1 (upto (gTurnF s) (T 1).toNat N 1 - s * T 1)) 193 (w32 (upto (gTurnF s) (T 1).toNat N 193 + s * T 1)) := by
  obtain ⟨i1, i2, i3⟩ := gShr_ok (T := T) (N := N) (s := s) (T 1).toNat (by omega)
  have et : ((T 1).toNat : Int) = T 1 := Int.toNat_of_nonneg hT1.1
  have ec : ∀ k, k = 1 ∨ k = 193 → upto (gTurnF s) (T 1).toNat N k = N k := fun k hk => upto_ind (P := fun _ (Ni : Int → Int) => Ni k = N k) rfl _ (fun i Ni hi hx => by unfold gTurnF; rw [up1_k (by omega)]; exact hx)
  have e193 : gShr T N s (T 1).toNat 193 = w32 (N 193 + T 1 * s) := by
    rw [← et, ← i3, et]
    obtain ⟨n, hn⟩ : ∃ n, (T 1).toNat = n + 1 := ⟨(T 1).toNat - 1, by omega⟩
    rw [hn]
    have e : gShr T N s (n + 1) 193 = w32 (gShr T N s n 193 + s) := up1_s
    rw [e, w32_w32]
  funext k
  by_cases hk : k = 193
  · rw [hk, up1_s, e193, ec 193 (Or.inr rfl), Int.mul_comm (T 1)]
  · rw [up1_k hk]
    by_cases hk1 : k = 1
    · rw [hk1, up1_s, i2, et, ec 1 (Or.inl rfl), Int.mul_comm s]
    · rw [up1_k hk1]; exact i1 k hk1 hk
theorem C_shareChest {p b : Int} {T N : Int → Int} {nx : Nat} {h r : PF} {s : Int → Int} {Q : PO → PY → Nat → PC → Prop} (hP : PlOk r p) (hS0 : StOk r b) (hT : TWf T) (h108 : N 108 ≤ 20) (hR : PlanRel h p T) (hS : StRel h b T N) (hpb : p + 6 < b ∨ b + 9 < p) (h60 : N 3 ≤ 60) (hM : MWf T N) (h0 : 0 < T 1) (K : ∀ h' : PF, (∀ a, a < b ∨ b + 9 < a → h' a = h a) → StRel h' b T (up1 (up1 (upto (gTurnF (pdiv (N 1) (T 1))) (T 1).toNat N) 1 (upto (gTurnF (pdiv (N 1) (T 1))) (T 1).toNat N 1 - pdiv (N 1) (T 1) * T 1)) 193 (w32 (upto (gTurnF (pdiv (N 1) (T 1))) (T 1).toNat N 193 + pdiv (N 1) (T 1) * T 1))) → Q (Sum.inl none) LY nx (h', r, s)) : Wp 69 0 [some (pR b), some (pR p), none, none] [] LY nx (h, r, s) Q := by
  have hT1 := hT.2.1
  have e10 := hS.1.2.2.1
  have ep1 := hR.1.2.1
  have hP0 := hP.1.1
  have hPk := hP.1.2
  have hS00 := hS0
  obtain ⟨⟨hs0, hsk⟩, ⟨hsr0, hsp0, hsd0⟩, ⟨hsr1, hsp1, hsd1⟩, ⟨hsr2, hsp2, hsd2⟩, ⟨hsr3, hsp3, hsd3⟩, ⟨hsr4, hsp4, hsd4⟩, ⟨hsr5, hsp5, hsd5⟩, ⟨hsr6, hsp6, hsd6⟩, ⟨hsr7, hsp7, hsd7⟩, ⟨hsr12, hsp12, hsd12⟩⟩ := hS00
  have hc := wm_coins hM (show (0 : Int) ≤ 0 by omega) h0
  have hN1 := hM.2.1
  have hd := pdiv_nn (x := N 1) (y := T 1) hN1 (by omega) h0 (by omega)
  have hs1 : 0 ≤ N 1 / T 1 := Int.ediv_nonneg hN1 (by omega)
  have hs2 : N 1 / T 1 ≤ N 1 := Int.ediv_le_self _ hN1
  have hs3 : N 1 / T 1 * T 1 ≤ N 1 := Int.ediv_mul_le _ (by omega)
  rw [← hd] at hs1 hs2 hs3
  rw [← gShr_end hT1 h0] at K
  simp (disch := first | assumption | omega) only [st_X5_shareChest, ↓if_pos, ↓if_neg, if_pos, if_neg, ↓reduceIte, true_and, and_true, false_and, and_false, true_or, or_true, false_or, or_false, w32_id, Kv, Kn, fup_s, fup_a, fup_k, fup_fup, Int.reduceAdd, Int.reduceSub, Int.reduceMul, Int.reduceNeg, e10, ep1]
  generalize pdiv (N 1) (T 1) = sh at *
  have hmul : ∀ n : Nat, (n : Int) ≤ T 1 → (n : Int) * sh ≤ N 1 := by
    intro n hn
    have := Int.mul_le_mul_of_nonneg_right hn hs1
    rw [Int.mul_comm (T 1)] at this
    omega
  refine loopW (Inv := fun i L H R => L = [some (pR b), some (pR p), some (pI sh), some (pI i)] ∧ R = r ∧ (∀ a, a < b ∨ b + 9 < a → H a = h a) ∧ StRel H b T (gShr T N sh i.toNat)) (a := 0) (n := T 1) (by omega) ?_ ?_ _ _ _ ⟨rfl, rfl, fun a _ => rfl, hS⟩
  · rintro i L H R hi hi2 ⟨rfl, rfl, hf, hSi⟩ hK
    have hg := gShr_ok (T := T) (N := N) (s := sh) i.toNat (by omega)
    have hk3 := gTurn3_ok (s := sh) hT (fun m h1 h2 => ⟨(hM.1 m h1 h2).2.1, (wm_coins hM h1 h2).1⟩) i.toNat (by omega)
    have ep1i : H p 1 = T 1 := by rw [hf p (by omega)]; exact ep1
    have g3 : gShr T N sh i.toNat 3 = N 3 := by rw [hg.1 3 (by omega) (by omega), hk3.2.1 3 (by omega)]
    have g108 : gShr T N sh i.toNat 108 = N 108 := by rw [hg.1 108 (by omega) (by omega), hk3.2.1 108 (by omega)]
    have gc : gOf (gShr T N sh i.toNat) i 1 = gOf N i 1 := by
      have h1 : gOf (gShr T N sh i.toNat) i 1 = gOf (upto (gTurnF sh) i.toNat N) i 1 := hg.1 _ (by omega) (by omega)
      rw [h1, hk3.1 i hi hi2 1 (by omega) (by omega), if_neg (by omega)]
    have g1 : gShr T N sh i.toNat 1 = N 1 - i * sh := by rw [hg.2.1, Int.toNat_of_nonneg hi]
    have hcm := wm_coins hM hi hi2
    have hc0 := (hM.1 i hi hi2).2.1
    have hmu := hmul i.toNat (by omega)
    rw [Int.toNat_of_nonneg hi] at hmu
    have hmu0 : 0 ≤ i * sh := Int.mul_nonneg hi hs1
    have ec := (st_m hSi hi hi2).2.1
    have e10i := hSi.1.2.2.1
    have e84 := hSi.2.2.1 4 (by omega) (by omega)
    rw [gc] at ec
    have hKK := hK [some (pR b), some (pR p), some (pI sh), some (pI (i + 1))] (fup (fup (fup H (b + 2) i (gOf N i 1 + sh)) b 10 (gShr T N sh i.toNat 1 - sh)) (b + 8) 4 (w32 (gShr T N sh i.toNat (189 + 4) + sh))) R ⟨rfl, rfl, fun a ha => by rw [fup_r (by omega), fup_r (by omega), fup_r (by omega)]; exact hf a ha, by
      have e : gShr T N sh (i + 1).toNat = up1 (up1 (up1 (gShr T N sh i.toNat) (64 + 11 * i + 1) (gOf N i 1 + sh)) 1 (gShr T N sh i.toNat 1 - sh)) (189 + 4) (w32 (gShr T N sh i.toNat (189 + 4) + sh)) := by
        rw [show (i + 1).toNat = i.toNat + 1 from by omega]
        show up1 (up1 (up1 (gShr T N sh i.toNat) (64 + 11 * (i.toNat : Int) + 1) (gOf (gShr T N sh i.toNat) (i.toNat : Int) 1 + sh)) 1 (gShr T N sh i.toNat 1 - sh)) 193 (w32 (gShr T N sh i.toNat 193 + sh)) = _
        rw [Int.toNat_of_nonneg hi, gc]
        rfl
      rw [e]
      exact sr_acc hT1.2 (by rw [up1_k (by omega), up1_k (by omega), g3]; exact h60) (by rw [up1_k (by omega), up1_k (by omega), g108]; exact h108) (by omega) (by omega) (fun z => by rcases z with z | z <;> omega) (sr_f10 hT1.2 (by rw [up1_k (by omega), g3]; exact h60) (sr_m1 hT1.2 (by rw [g3]; exact h60) hi (by omega) hSi))⟩
    clear hK
    have h1b : -10000 ≤ gShr T N sh i.toNat 1 ∧ gShr T N sh i.toNat 1 ≤ 10000 := by rw [g1]; omega
    rw [sh_X5_shareChest_20]
    simp (disch := first | assumption | omega) only [st_X5_shareChest, ↓if_pos, ↓if_neg, if_pos, if_neg, ↓reduceIte, true_and, and_true, false_and, and_false, true_or, or_true, false_or, or_false, w32_id, Kv, Kn, fup_s, fup_a, fup_k, fup_fup, Int.reduceAdd, Int.reduceSub, Int.reduceMul, Int.reduceNeg, ec, e10i, e84, ep1i]
    exact hKK
  · rintro L H R ⟨rfl, rfl, hf, hSi⟩
    have ep1i : H p 1 = T 1 := by rw [hf p (by omega)]; exact ep1
    rw [sh_X5_shareChest_20]
    simp (disch := first | assumption | omega) only [st_X5_shareChest, ↓if_pos, ↓if_neg, if_pos, if_neg, ↓reduceIte, true_and, and_true, false_and, and_false, true_or, or_true, false_or, or_false, w32_id, Kv, Kn, fup_s, fup_a, fup_k, fup_fup, Int.reduceAdd, Int.reduceSub, Int.reduceMul, Int.reduceNeg, ep1i]
    exact K H hf hSi
theorem C_endRound {p b : Int} {T N : Int → Int} {nx : Nat} {h r : PF} {s : Int → Int} {Q : PO → PY → Nat → PC → Prop} (hP : PlOk r p) (hS0 : StOk r b) (hT : TWf T) (h108 : N 108 ≤ 20) (hR : PlanRel h p T) (hS : StRel h b T N) (hpb : p + 6 < b ∨ b + 9 < p) (h60 : N 3 ≤ 60) (hM : MWf T N) (h2 : 0 < T 1 → 0 ≤ N 2 ∧ N 2 < T 1) (K : ∀ h' : PF, (∀ a, a < b ∨ b + 9 < a → h' a = h a) → StRel h' b T (if 0 < T 1 ∧ prem (w32 (N 0 + 1)) (T 2) = 0 then gTurns T (up1 N 0 (w32 (N 0 + 1))) else up1 N 0 (w32 (N 0 + 1))) → Q (Sum.inl none) LY nx (h', r, s)) : Wp 67 0 [some (pR b), some (pR p)] [] LY nx (h, r, s) Q := by
  have hT1 := hT.2.1
  have hT2 := hT.2.2.1
  have e9 := hS.1.2.1
  have ep1 := hR.1.2.1
  have ep3 := hR.1.2.2.1
  have hP0 := hP.1.1
  have hPk := hP.1.2
  have hS00 := hS0
  obtain ⟨⟨hs0, hsk⟩, ⟨hsr0, hsp0, hsd0⟩, ⟨hsr1, hsp1, hsd1⟩, ⟨hsr2, hsp2, hsd2⟩, ⟨hsr3, hsp3, hsd3⟩, ⟨hsr4, hsp4, hsd4⟩, ⟨hsr5, hsp5, hsd5⟩, ⟨hsr6, hsp6, hsd6⟩, ⟨hsr7, hsp7, hsd7⟩, ⟨hsr12, hsp12, hsd12⟩⟩ := hS00
  have hS9 := sr_f9 (v := w32 (N 0 + 1)) hT1.2 h60 hS
  have hM9 : MWf T (up1 N 0 (w32 (N 0 + 1))) := wm_out hT hM (by omega) (by omega)
  have hR9 : PlanRel (fup h b 9 (w32 (N 0 + 1))) p T := pr_fr (fun a h3 h4 => by rw [fup_r (by omega)]) hR
  have e92 : ∀ k, k ≠ 0 → up1 N 0 (w32 (N 0 + 1)) k = N k := fun k hk => up1_k hk
  by_cases hc1 : 0 < T 1
  · by_cases hc2 : prem (w32 (N 0 + 1)) (T 2) = 0
    · rw [if_pos ⟨hc1, hc2⟩] at K
      have h2' := h2 hc1
      simp (disch := first | assumption | omega) only [st_X5_endRound, ↓if_pos, ↓if_neg, if_pos, if_neg, ↓reduceIte, true_and, and_true, false_and, and_false, true_or, or_true, false_or, or_false, w32_id, Kv, Kn, fup_s, fup_a, fup_k, fup_fup, Int.reduceAdd, Int.reduceSub, Int.reduceMul, Int.reduceNeg, e9, ep1, ep3, hc2]
      refine C_takeTurn hP hS0 hT (by rw [e92 108 (by omega)]; exact h108) hR9 hS9 hpb (by rw [e92 3 (by omega)]; exact h60) hM9 (by rw [e92 2 (by omega)]; exact h2') (fun h' hf hS' => ?_)
      simp (disch := first | assumption | omega) only [st_X5_endRound, ↓if_pos, ↓if_neg, if_pos, if_neg, ↓reduceIte, true_and, and_true, false_and, and_false, true_or, or_true, false_or, or_false, w32_id, Kv, Kn, fup_s, fup_a, fup_k, fup_fup, Int.reduceAdd, Int.reduceSub, Int.reduceMul, Int.reduceNeg]
      have hM1t := wm_turn1 hT hM9 (by rw [e92 2 (by omega)]; exact h2')
      have hM2 : MWf T (gTurn2 T (up1 N 0 (w32 (N 0 + 1)))) := wm_out hT hM1t (by omega) (by omega)
      have et : ∀ k, k = 3 ∨ k = 108 → gTurn2 T (up1 N 0 (w32 (N 0 + 1))) k = N k := by
        intro k hk
        have h2'' : 0 ≤ up1 N 0 (w32 (N 0 + 1)) 2 ∧ up1 N 0 (w32 (N 0 + 1)) 2 < T 1 := by rw [e92 2 (by omega)]; exact h2'
        unfold gTurn2
        rw [up1_k (by omega)]
        unfold gTurn1
        split
        · rw [gFresh_o (by omega)]; unfold gChest; rw [up1_k (by omega), up1_k (by omega), up1_k (by omega), e92 k (by omega)]
        · exact e92 k (by omega)
      refine C_shareChest hP hS0 hT (by rw [et 108 (Or.inr rfl)]; exact h108) (pr_fr (fun a h3 h4 => by rw [hf a (by omega)]) hR9) hS' hpb (by rw [et 3 (Or.inl rfl)]; exact h60) hM2 hc1 (fun h'' hf2 hS2 => ?_)
      simp (disch := first | assumption | omega) only [st_X5_endRound, ↓if_pos, ↓if_neg, if_pos, if_neg, ↓reduceIte, true_and, and_true, false_and, and_false, true_or, or_true, false_or, or_false, w32_id, Kv, Kn, fup_s, fup_a, fup_k, fup_fup, Int.reduceAdd, Int.reduceSub, Int.reduceMul, Int.reduceNeg]
      exact K h'' (fun a ha => by rw [hf2 a ha, hf a ha, fup_r (by omega)]) hS2
    · rw [if_neg (fun z => hc2 z.2)] at K
      simp (disch := first | assumption | omega) only [st_X5_endRound, ↓if_pos, ↓if_neg, if_pos, if_neg, ↓reduceIte, true_and, and_true, false_and, and_false, true_or, or_true, false_or, or_false, w32_id, Kv, Kn, fup_s, fup_a, fup_k, fup_fup, Int.reduceAdd, Int.reduceSub, Int.reduceMul, Int.reduceNeg, e9, ep1, ep3]
      exact K _ (fun a ha => by rw [fup_r (by omega)]) hS9
  · rw [if_neg (fun z => hc1 z.1)] at K
    simp (disch := first | assumption | omega) only [st_X5_endRound, ↓if_pos, ↓if_neg, if_pos, if_neg, ↓reduceIte, true_and, and_true, false_and, and_false, true_or, or_true, false_or, or_false, w32_id, Kv, Kn, fup_s, fup_a, fup_k, fup_fup, Int.reduceAdd, Int.reduceSub, Int.reduceMul, Int.reduceNeg, e9, ep1, ep3]
    exact K _ (fun a ha => by rw [fup_r (by omega)]) hS9
