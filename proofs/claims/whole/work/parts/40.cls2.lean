theorem gD_val {T N : Int → Int} {m t : Int} : ∀ k : Nat, gD T N m t k ≠ -1 → lev T N m (gD T N m t k).toNat t
  | 0, h => by
    have e : gD T N m t 0 = if pand (pshr (gFound T N m 0) t) 1 = 1 then 0 else -1 := rfl
    by_cases hc : pand (pshr (gFound T N m 0) t) 1 = 1
    · rw [e, if_pos hc]; exact hc
    · rw [e, if_neg hc] at h; exact absurd rfl h
  | k + 1, h => by
    have e : gD T N m t (k + 1) = if gD T N m t k ≠ -1 then gD T N m t k else if pand (pshr (gFound T N m (k + 1)) t) 1 = 1 then ((k + 1 : Nat) : Int) else -1 := rfl
    by_cases hd : gD T N m t k ≠ -1
    · rw [e, if_pos hd]; exact gD_val k hd
    · rw [e, if_neg hd]
      rw [e, if_neg hd] at h
      by_cases hc : pand (pshr (gFound T N m (k + 1)) t) 1 = 1
      · rw [if_pos hc]; exact hc
      · rw [if_neg hc] at h; exact absurd rfl h
theorem lev_up {T N : Int → Int} {m t : Int} {k : Nat} (h6 : gO T m 2 ≤ 6) (hT0 : 0 ≤ T 0) (ht : 0 ≤ t) (ht2 : t < gO T m 2) (h : lev T N m k t) : ∀ i : Nat, lev T N m (k + i) t
  | 0 => h
  | i + 1 => lev_mono h6 hT0 ht ht2 (lev_up h6 hT0 ht ht2 h i)
/-- a state is at distance k + 1 when it leads to one at distance k -/
theorem next_iff {T N A : Int → Int} {m t : Int} {k : Nat} (hT : TWf T) (hm : 0 ≤ m) (hm2 : m < T 1) (ht : 0 ≤ t) (ht2 : t < gO T m 2) (hA : ∀ u, 0 ≤ u → u < gO T m 2 → A u = gD T N m u k ∨ A u = gD T N m u (k + 1)) (h0 : gD T N m t k = -1) : lev T N m (k + 1) t ↔ ∃ l, 0 ≤ l ∧ l < T 0 ∧ gGo T m t l ≠ -1 ∧ A (gGo T m t l) = k ∧ ¬ (0 < gS T m (gGo T m t l) 1 ∧ gOf N m (5 + (gGo T m t l)) = 0) := by
  have hTm := (hT.2.2.2.2.2 m hm hm2).1
  have hT0 := hT.1
  have h6 := hTm.2.2.2.1
  have hnl : ¬ lev T N m k t := fun z => (gD_lev h6 (by omega) ht ht2 k).mpr z h0
  rw [lev_S h6 (by omega) ht ht2]
  constructor
  · rintro (z | ⟨l, z1, z2, z3, z4, z5⟩)
    · exact absurd z hnl
    · have hg := gGo_lt hT hm hm2 ht (by omega) z1 (show l < 4 by omega)
      refine ⟨l, z1, z2, by omega, ?_, z4⟩
      have hd := (gD_lev h6 (by omega) z3 hg.2 k).mpr z5
      have hr := gD_rng (T := T) (N := N) (m := m) (t := gGo T m t l) k
      have hv := gD_val k hd
      have hk : gD T N m (gGo T m t l) k = k := by
        refine Classical.byContradiction (fun hne => hnl ?_)
        have h1 : lev T N m ((gD T N m (gGo T m t l) k).toNat + 1) t := (lev_S h6 (by omega) ht ht2).mpr (Or.inr ⟨l, z1, z2, z3, z4, hv⟩)
        have h2 := lev_up h6 (by omega) ht ht2 h1 (k - ((gD T N m (gGo T m t l) k).toNat + 1))
        rwa [show (gD T N m (gGo T m t l) k).toNat + 1 + (k - ((gD T N m (gGo T m t l) k).toNat + 1)) = k from by omega] at h2
      rcases hA _ z3 hg.2 with e | e
      · rw [e, hk]
      · rw [e]
        have := gD_stay hd 1
        rw [this, hk]
  · rintro ⟨l, z1, z2, z3, z4, z5⟩
    have hg := gGo_lt hT hm hm2 ht (by omega) z1 (show l < 4 by omega)
    have hg0 : 0 ≤ gGo T m t l := by omega
    refine Or.inr ⟨l, z1, z2, hg0, z5, ?_⟩
    refine (gD_lev h6 (by omega) hg0 hg.2 k).mp ?_
    rcases hA _ hg0 hg.2 with e | e
    · rw [← e, z4]; omega
    · intro hne
      have e2 : gD T N m (gGo T m t l) (k + 1) = if gD T N m (gGo T m t l) k ≠ -1 then gD T N m (gGo T m t l) k else if pand (pshr (gFound T N m (k + 1)) (gGo T m t l)) 1 = 1 then ((k + 1 : Nat) : Int) else -1 := rfl
      rw [e, e2, if_neg (fun z => z hne)] at z4
      split at z4 <;> omega
theorem D_measure {p b m : Int} {T N : Int → Int} {nx : Nat} {h r : PF} {s : Int → Int} {Q : PO → PY → Nat → PC → Prop} (hW : WFr r) (hP : PlOk r p) (hS0 : StOk r b) (hT : TWf T) (hR : PlanRel h p T) (hS : StRel h b T N) (hm : 0 ≤ m) (hm2 : m < T 1) (hp14 : 14 < p) (hb14 : 14 < b) (K : ∀ g : Int → Int, (∀ t, 0 ≤ t → t < gO T m 2 → g t = gDist T N m t) → Q (Sum.inl none) LY nx (frow h 14 g, r, s)) : Wp 1 0 [some (pR 9), some (pR p), some (pR b), some (pI m), none, none, none] [] LY nx (h, r, s) Q := by
  have hT0 := hT.1
  have hT1 := hT.2.1
  have hTm := (hT.2.2.2.2.2 m hm hm2).1
  have hP1 := hP.1
  have hP0 := hP1.1
  have hPk := hP1.2
  have hS1 := hS0.1
  have hS10 := hS1.1
  have hS1k := hS1.2
  have ep0 := hR.1.1
  have ep1 := hR.1.2.1
  obtain ⟨⟨hq0, hqk⟩, ⟨hqr5, hqp5, hqd5⟩, ⟨hqr6, hqp6, hqd6⟩, ⟨hqr7, hqp7, hqd7⟩, ⟨hqr8, hqp8, hqd8⟩, ⟨hqr9, hqp9, hqd9⟩, ⟨hqr10, hqp10, hqd10⟩⟩ := hP
  have hPx : PlOk r p := ⟨⟨hq0, hqk⟩, ⟨hqr5, hqp5, hqd5⟩, ⟨hqr6, hqp6, hqd6⟩, ⟨hqr7, hqp7, hqd7⟩, ⟨hqr8, hqp8, hqd8⟩, ⟨hqr9, hqp9, hqd9⟩, ⟨hqr10, hqp10, hqd10⟩⟩
  have e3 := (hR.2 m hm hm2).1.2.2.1
  simp (disch := first | assumption | omega) only [st_X0_measure, ↓if_pos, ↓if_neg, if_pos, if_neg, ↓reduceIte, true_and, and_true, false_and, and_false, true_or, or_true, false_or, or_false, w32_id, Kv, Kn, fup_s, fup_a, fup_k, fup_fup, Int.reduceAdd, Int.reduceSub, Int.reduceMul, Int.reduceNeg, e3]
  refine loopW (Inv := fun i L H R => ∃ A, L = [some (pR 9), some (pR p), some (pR b), some (pI m), some (pI (gO T m 2)), some (pI i), none] ∧ H = frow h 14 A ∧ R = r ∧ ∀ t, 0 ≤ t → t < i → A t = gD T N m t 0) (a := 0) (n := gO T m 2) (by omega) ?_ ?_ _ _ _ ⟨h 14, rfl, frow_self.symm, rfl, fun t h1 h2 => by omega⟩
  · rintro i L H R hi hi2 ⟨A, rfl, rfl, rfl, hA⟩ hK
    have hRi := pr_row (a := 14) (g := A) (Or.inl hp14) hR
    have hl0 : pand (pshr (gFound T N m 0) i) 1 = 1 ↔ gS T m i 0 = 1 := lev_0 (T := T) (N := N) (m := m) (t := i) (by omega) hi hi2
    have eD : gD T N m i 0 = if pand (pshr (gFound T N m 0) i) 1 = 1 then 0 else -1 := rfl
    have hK2 : ∀ v, v = gD T N m i 0 → Wp 1 11 [some (pR 9), some (pR p), some (pR b), some (pI m), some (pI (gO T m 2)), some (pI (i + 1)), none] [] LY nx (frow h 14 (up1 A i v), R, s) Q := by
      intro v hv
      refine hK _ _ _ ⟨up1 A i v, rfl, rfl, rfl, fun t h1 h2 => ?_⟩
      by_cases hti : t = i
      · rw [hti, up1_s]; exact hv
      · rw [up1_k hti]; exact hA t h1 (by omega)
    clear hK
    rw [sh_X0_measure_11]
    simp (disch := first | assumption | omega) only [st_X0_measure, ↓if_pos, ↓if_neg, if_pos, if_neg, ↓reduceIte, true_and, and_true, false_and, and_false, true_or, or_true, false_or, or_false, w32_id, Kv, Kn, fup_s, fup_a, fup_k, fup_fup, Int.reduceAdd, Int.reduceSub, Int.reduceMul, Int.reduceNeg, D_isGoal hPx hT hRi, fup_frow]
    split
    · rename_i hc
      exact hK2 _ (by rw [eD, if_pos (hl0.mpr hc)])
    · rename_i hc
      exact hK2 _ (by rw [eD, if_neg (fun z => hc (hl0.mp z))])
  · rintro L H R ⟨A, rfl, rfl, rfl, hA⟩
    rw [sh_X0_measure_11]
    simp (disch := first | assumption | omega) only [st_X0_measure, ↓if_pos, ↓if_neg, if_pos, if_neg, ↓reduceIte, true_and, and_true, false_and, and_false, true_or, or_true, false_or, or_false, w32_id, Kv, Kn, fup_s, fup_a, fup_k, fup_fup, Int.reduceAdd, Int.reduceSub, Int.reduceMul, Int.reduceNeg]
    refine loopW (Inv := fun k L H R' => ∃ A x, L = [some (pR 9), some (pR p), some (pR b), some (pI m), some (pI (gO T m 2)), some (pI k), x] ∧ H = frow h 14 A ∧ R' = R ∧ ∀ t, 0 ≤ t → t < gO T m 2 → A t = gD T N m t (k - 1).toNat) (a := 1) (n := gO T m 2) (by omega) ?_ ?_ _ _ _ ⟨A, _, rfl, rfl, rfl, hA⟩
    · rintro k L H R' hk hk2 ⟨A, x, rfl, rfl, rfl, hA⟩ hK
      rw [sh_X0_measure_49]
      simp (disch := first | assumption | omega) only [st_X0_measure, ↓if_pos, ↓if_neg, if_pos, if_neg, ↓reduceIte, true_and, and_true, false_and, and_false, true_or, or_true, false_or, or_false, w32_id, Kv, Kn, fup_s, fup_a, fup_k, fup_fup, Int.reduceAdd, Int.reduceSub, Int.reduceMul, Int.reduceNeg]
      have ek : k.toNat = (k - 1).toNat + 1 := by omega
      refine loopW (Inv := fun j L H R => ∃ A', L = [some (pR 9), some (pR p), some (pR b), some (pI m), some (pI (gO T m 2)), some (pI k), some (pI j)] ∧ H = frow h 14 A' ∧ R = R' ∧ (∀ t, 0 ≤ t → t < j → A' t = gD T N m t k.toNat) ∧ ∀ t, j ≤ t → t < gO T m 2 → A' t = gD T N m t (k - 1).toNat) (a := 0) (n := gO T m 2) (by omega) ?_ ?_ _ _ _ ⟨A, rfl, rfl, rfl, fun t h1 h2 => by omega, hA⟩
      · rintro j L H R hj hj2 ⟨A', rfl, rfl, rfl, hA1, hA2⟩ hK2
        have hRi := pr_row (a := 14) (g := A') (Or.inl hp14) hR
        have hSi := sr_row (a := 14) (g := A') (Or.inl hb14) hS
        have hAj := hA2 j (by omega) hj2
        have eD : gD T N m j k.toNat = if gD T N m j (k - 1).toNat ≠ -1 then gD T N m j (k - 1).toNat else if pand (pshr (gFound T N m k.toNat) j) 1 = 1 then (k.toNat : Int) else -1 := by
          rw [ek]; rfl
        have hK3 : A' j = gD T N m j k.toNat → Wp 1 59 [some (pR 9), some (pR p), some (pR b), some (pI m), some (pI (gO T m 2)), some (pI k), some (pI (j + 1))] [] LY nx (frow h 14 A', R, s) Q := by
          intro hv
          refine hK2 _ _ _ ⟨A', rfl, rfl, rfl, fun t h1 h2 => ?_, fun t h1 h2 => hA2 t (by omega) h2⟩
          by_cases htj : t = j
          · rw [htj]; exact hv
          · exact hA1 t h1 (by omega)
        have hK4 : k = gD T N m j k.toNat → Wp 1 59 [some (pR 9), some (pR p), some (pR b), some (pI m), some (pI (gO T m 2)), some (pI k), some (pI (j + 1))] [] LY nx (frow h 14 (up1 A' j k), R, s) Q := by
          intro hv
          refine hK2 _ _ _ ⟨up1 A' j k, rfl, rfl, rfl, fun t h1 h2 => ?_, fun t h1 h2 => by rw [up1_k (by omega)]; exact hA2 t (by omega) h2⟩
          by_cases htj : t = j
          · rw [htj, up1_s]; exact hv
          · rw [up1_k htj]; exact hA1 t h1 (by omega)
        clear hK2
        rw [sh_X0_measure_59]
        by_cases hc : A' j = -1
        · rw [hAj] at hc
          have hc2 : A' j = -1 := by rw [hAj]; exact hc
          have hn := next_iff (A := A') (k := (k - 1).toNat) hT hm hm2 hj hj2 (fun u h1 h2 => by
            by_cases huj : u < j
            · right; rw [← ek]; exact hA1 u h1 huj
            · left; exact hA2 u (by omega) h2) hc
          rw [← ek] at hn
          have ekk : ((k - 1).toNat : Int) = k - 1 := Int.toNat_of_nonneg (by omega)
          rw [ekk] at hn
          simp (disch := first | assumption | omega) only [st_X0_measure, ↓if_pos, ↓if_neg, if_pos, if_neg, ↓reduceIte, true_and, and_true, false_and, and_false, true_or, or_true, false_or, or_false, w32_id, Kv, Kn, fup_s, fup_a, fup_k, fup_fup, Int.reduceAdd, Int.reduceSub, Int.reduceMul, Int.reduceNeg, frow_sk, hc2]
          by_cases hl : lev T N m k.toNat j
          · refine D_isNextTo hW hPx hS0 hT hRi hSi hm hm2 hj (by omega) 1 (Or.inr rfl) ⟨fun _ => by rw [frow_s]; exact hn.mp hl, fun _ => rfl⟩ ?_
            simp (disch := first | assumption | omega) only [st_X0_measure, ↓if_pos, ↓if_neg, if_pos, if_neg, ↓reduceIte, true_and, and_true, false_and, and_false, true_or, or_true, false_or, or_false, w32_id, Kv, Kn, fup_s, fup_a, fup_k, fup_fup, Int.reduceAdd, Int.reduceSub, Int.reduceMul, Int.reduceNeg, fup_frow]
            refine hK4 ?_
            have hl2 : pand (pshr (gFound T N m k.toNat) j) 1 = 1 := hl
            rw [eD, if_neg (fun z => z hc), if_pos hl2, Int.toNat_of_nonneg (by omega)]
          · refine D_isNextTo hW hPx hS0 hT hRi hSi hm hm2 hj (by omega) 0 (Or.inl rfl) ⟨fun z => by omega, fun z => by rw [frow_s] at z; exact absurd (hn.mpr z) hl⟩ ?_
            simp (disch := first | assumption | omega) only [st_X0_measure, ↓if_pos, ↓if_neg, if_pos, if_neg, ↓reduceIte, true_and, and_true, false_and, and_false, true_or, or_true, false_or, or_false, w32_id, Kv, Kn, fup_s, fup_a, fup_k, fup_fup, Int.reduceAdd, Int.reduceSub, Int.reduceMul, Int.reduceNeg, fup_frow]
            refine hK3 ?_
            have hl2 : ¬ pand (pshr (gFound T N m k.toNat) j) 1 = 1 := hl
            rw [eD, if_neg (fun z => z hc), if_neg hl2, hc2]
        · skip
          simp (disch := first | assumption | omega) only [st_X0_measure, ↓if_pos, ↓if_neg, if_pos, if_neg, ↓reduceIte, true_and, and_true, false_and, and_false, true_or, or_true, false_or, or_false, w32_id, Kv, Kn, fup_s, fup_a, fup_k, fup_fup, Int.reduceAdd, Int.reduceSub, Int.reduceMul, Int.reduceNeg, frow_sk]
          refine hK3 ?_
          rw [hAj] at hc
          rw [eD, if_pos hc, hAj]
      · rintro L H R ⟨A', rfl, rfl, rfl, hA1, hA2⟩
        rw [sh_X0_measure_59]
        simp (disch := first | assumption | omega) only [st_X0_measure, ↓if_pos, ↓if_neg, if_pos, if_neg, ↓reduceIte, true_and, and_true, false_and, and_false, true_or, or_true, false_or, or_false, w32_id, Kv, Kn, fup_s, fup_a, fup_k, fup_fup, Int.reduceAdd, Int.reduceSub, Int.reduceMul, Int.reduceNeg]
        refine hK _ _ _ ⟨A', _, rfl, rfl, rfl, fun t h1 h2 => ?_⟩
        rw [show (k + 1 - 1).toNat = k.toNat from by omega]
        exact hA1 t h1 h2
    · rintro L H R' ⟨A, x, rfl, rfl, rfl, hA⟩
      rw [sh_X0_measure_49]
      simp (disch := first | assumption | omega) only [st_X0_measure, ↓if_pos, ↓if_neg, if_pos, if_neg, ↓reduceIte, true_and, and_true, false_and, and_false, true_or, or_true, false_or, or_false, w32_id, Kv, Kn, fup_s, fup_a, fup_k, fup_fup, Int.reduceAdd, Int.reduceSub, Int.reduceMul, Int.reduceNeg]
      refine K A (fun t h1 h2 => ?_)
      rw [hA t h1 h2, gDist_last hT hm hm2 h1 h2, show (gO T m 2 - 1).toNat = (gO T m 2).toNat - 1 from by omega]
theorem up1_up1 {g : Int → Int} {k v w : Int} : up1 (up1 g k v) k w = up1 g k w := by
  funext j
  unfold up1
  split <;> rfl
theorem gWant0 {T N : Int → Int} {m : Int} (h : gOf N m 1 = 0) : gWant T N m = -1 := by
  unfold gWant
  refine upto_ind (P := fun _ b => b = (-1 : Int)) rfl _ (fun k x hk hx => ?_)
  unfold gWantF
  rw [if_neg]
  · exact hx
  · rintro ⟨z, _⟩
    unfold gWhy at z
    (repeat' split at z) <;> omega
theorem D_choose {p b m : Int} {T N : Int → Int} {nx : Nat} {h r : PF} {s : Int → Int} {Q : PO → PY → Nat → PC → Prop} (hW : WFr r) (hP : PlOk r p) (hS0 : StOk r b) (hT : TWf T) (hR : PlanRel h p T) (hS : StRel h b T N) (hm : 0 ≤ m) (hm2 : m < T 1) (hN : NWf T N) (hp14 : 14 < p) (hb14 : 14 < b) (hA : ∀ t, 0 ≤ t → t < gO T m 2 → h 14 t = gDist T N m t) (K : Q (Sum.inl none) LY nx (frow (frow h 10 (up1 (h 10) m (gWant T N m))) 11 (up1 (h 11) m (gBid T N m)), r, s)) : Wp 5 0 [some (pR 9), some (pR p), some (pR b), some (pI m), none, none, none, none] [] LY nx (h, r, s) Q := by
  have hT0 := hT.1
  have hT1 := hT.2.1
  have hTm := (hT.2.2.2.2.2 m hm hm2).1
  have hP1 := hP.1
  have hP0 := hP1.1
  have hPk := hP1.2
  have hS1 := hS0.1
  have hS10 := hS1.1
  have hS1k := hS1.2
  have ep0 := hR.1.1
  have ep1 := hR.1.2.1
  obtain ⟨⟨hq0, hqk⟩, ⟨hqr5, hqp5, hqd5⟩, ⟨hqr6, hqp6, hqd6⟩, ⟨hqr7, hqp7, hqd7⟩, ⟨hqr8, hqp8, hqd8⟩, ⟨hqr9, hqp9, hqd9⟩, ⟨hqr10, hqp10, hqd10⟩⟩ := hP
  have hPx : PlOk r p := ⟨⟨hq0, hqk⟩, ⟨hqr5, hqp5, hqd5⟩, ⟨hqr6, hqp6, hqd6⟩, ⟨hqr7, hqp7, hqd7⟩, ⟨hqr8, hqp8, hqd8⟩, ⟨hqr9, hqp9, hqd9⟩, ⟨hqr10, hqp10, hqd10⟩⟩
  obtain ⟨⟨hu0, huk⟩, ⟨hur0, hup0, hud0⟩, ⟨hur1, hup1, hud1⟩, ⟨hur2, hup2, hud2⟩, ⟨hur3, hup3, hud3⟩, ⟨hur4, hup4, hud4⟩, ⟨hur5, hup5, hud5⟩, ⟨hur6, hup6, hud6⟩, ⟨hur7, hup7, hud7⟩, ⟨hur12, hup12, hud12⟩⟩ := hS0
  have hSx : StOk r b := ⟨⟨hu0, huk⟩, ⟨hur0, hup0, hud0⟩, ⟨hur1, hup1, hud1⟩, ⟨hur2, hup2, hud2⟩, ⟨hur3, hup3, hud3⟩, ⟨hur4, hup4, hud4⟩, ⟨hur5, hup5, hud5⟩, ⟨hur6, hup6, hud6⟩, ⟨hur7, hup7, hud7⟩, ⟨hur12, hup12, hud12⟩⟩
  have em := st_m hS hm hm2
  have em0 := em.1
  have em1 := em.2.1
  have em2 := em.2.2.1
  have hNm := hN.2.2.2.2.1 m hm hm2
  have hN0 := hNm.1
  have hN1 := hNm.2.1
  have hN2 := hNm.2.2.1
  have hwo := gWant_ok (T := T) (N := N) (m := m) (by omega)
  have hcm := wm_coins (wn_wm hN) hm hm2
  have fin : ∀ wd (x y : Option PV) i, wd = gWant T N m → Wp 5 111 [some (pR 9), some (pR p), some (pR b), some (pI m), some (pI (if wd = -1 then 0 else gWorth T N m wd)), some (pI i), x, y] [] LY nx (frow h 10 (up1 (h 10) m wd), r, s) Q := by
    intro wd x y i hwd
    have hwr := gWorth_rng (l := wd) hN hm hm2
    simp (disch := first | assumption | omega) only [st_X0_choose_0, st_X0_choose_1, ↓if_pos, ↓if_neg, if_pos, if_neg, ↓reduceIte, true_and, and_true, false_and, and_false, true_or, or_true, false_or, or_false, w32_id, Kv, Kn, fup_s, fup_a, fup_k, fup_fup, Int.reduceAdd, Int.reduceSub, Int.reduceMul, Int.reduceNeg, frow_rk, em1]
    rw [← hwd] at K
    have e11 : frow h 10 (up1 (h 10) m wd) 11 = h 11 := frow_r (by omega)
    have efu : ∀ v, fup (frow h 10 (up1 (h 10) m wd)) 11 m v = frow (frow h 10 (up1 (h 10) m wd)) 11 (up1 (h 11) m v) := by
      intro v
      have := fup_frow (h := frow h 10 (up1 (h 10) m wd)) (a := 11) (k := m) (v := v) (g := frow h 10 (up1 (h 10) m wd) 11)
      rw [frow_self, e11] at this
      exact this
    rw [efu]
    have ebid : gBid T N m = (if gOf N m 1 < (if wd = -1 then 0 else gWorth T N m wd) then gOf N m 1 else (if wd = -1 then 0 else gWorth T N m wd)) := by
      unfold gBid
      rw [← hwd]
      by_cases hw : wd = -1
      · rw [if_pos hw, if_pos hw, if_neg (by omega)]
      · rw [if_neg hw, if_neg hw]
        by_cases hz : gWorth T N m wd < gOf N m 1
        · rw [if_pos hz, if_neg (by omega)]
        · rw [if_neg hz]
          by_cases hy : gOf N m 1 < gWorth T N m wd
          · rw [if_pos hy]
          · rw [if_neg hy]; omega
    rw [ebid] at K
    exact K
  simp (disch := first | assumption | omega) only [st_X0_choose_0, st_X0_choose_1, ↓if_pos, ↓if_neg, if_pos, if_neg, ↓reduceIte, true_and, and_true, false_and, and_false, true_or, or_true, false_or, or_false, w32_id, Kv, Kn, fup_s, fup_a, fup_k, fup_fup, Int.reduceAdd, Int.reduceSub, Int.reduceMul, Int.reduceNeg]
  have e10 : fup h 10 m (-1) = frow h 10 (up1 (h 10) m (-1)) := by
    have := fup_frow (h := h) (a := 10) (k := m) (v := -1) (g := h 10)
    rw [frow_self] at this
    exact this
  rw [e10]
  by_cases hc0 : gOf N m 1 = 0
  · rw [sh_X0_choose_13]
    have em1' : frow h 10 (up1 (h 10) m (-1)) (b + 2) m = 0 := by rw [frow_rk (by omega), em1, hc0]
    have epl : frow h 10 (up1 (h 10) m (-1)) p 0 = T 0 := by rw [frow_rk (by omega), ep0]
    simp (disch := first | assumption | omega) only [st_X0_choose_0, st_X0_choose_1, ↓if_pos, ↓if_neg, if_pos, if_neg, ↓reduceIte, true_and, and_true, false_and, and_false, true_or, or_true, false_or, or_false, w32_id, Kv, Kn, fup_s, fup_a, fup_k, fup_fup, Int.reduceAdd, Int.reduceSub, Int.reduceMul, Int.reduceNeg, em1', epl]
    have := fin (-1) none none 0 (gWant0 hc0).symm
    rw [if_pos rfl] at this
    simp (disch := first | assumption | omega) only [st_X0_choose_0, st_X0_choose_1, ↓if_pos, ↓if_neg, if_pos, if_neg, ↓reduceIte, true_and, and_true, false_and, and_false, true_or, or_true, false_or, or_false, w32_id, Kv, Kn, fup_s, fup_a, fup_k, fup_fup, Int.reduceAdd, Int.reduceSub, Int.reduceMul, Int.reduceNeg, em1', epl] at this
    exact this
  refine loopW (Inv := fun i L H R => ∃ wd x y, L = [some (pR 9), some (pR p), some (pR b), some (pI m), some (pI (if wd = -1 then 0 else gWorth T N m wd)), some (pI i), x, y] ∧ H = frow h 10 (up1 (h 10) m wd) ∧ R = r ∧ wd = upto (gWantF T N m) i.toNat (-1)) (a := 0) (n := T 0) (by omega) ?_ ?_ _ _ _ ⟨-1, _, _, by rw [if_pos rfl], rfl, rfl, rfl⟩
  · rintro i L H R hi hi2 ⟨wd, x, y, rfl, rfl, rfl, hwd⟩ hK
    have hRi := pr_row (a := 10) (g := up1 (h 10) m wd) (Or.inl (by omega)) hR
    have hSi := sr_row (a := 10) (g := up1 (h 10) m wd) (Or.inl (by omega)) hS
    have hg := gTo_rng hT (wn_wm hN) hm hm2 hi (show i < 4 by omega)
    have hwr := gWorth_rng (l := wd) hN hm hm2
    have hwri := gWorth_rng (l := i) hN hm hm2
    have hKn : ∀ x y, gWantF T N m i wd = wd → Wp 5 13 [some (pR 9), some (pR p), some (pR b), some (pI m), some (pI (if wd = -1 then 0 else gWorth T N m wd)), some (pI (i + 1)), x, y] [] LY nx (frow h 10 (up1 (h 10) m wd), R, s) Q := fun x y hv => hK _ _ _ ⟨wd, x, y, rfl, rfl, rfl, by rw [upto_s hi, ← hwd]; exact hv.symm⟩
    have hKy : ∀ x y, gWantF T N m i wd = i → Wp 5 13 [some (pR 9), some (pR p), some (pR b), some (pI m), some (pI (gWorth T N m i)), some (pI (i + 1)), x, y] [] LY nx (frow h 10 (up1 (h 10) m i), R, s) Q := fun x y hv => hK _ _ _ ⟨i, x, y, by rw [if_neg (by omega)], rfl, rfl, by rw [upto_s hi, ← hwd]; exact hv.symm⟩
    clear hK
    rw [sh_X0_choose_13]
    by_cases hcg : 0 ≤ gTo T N m i ∧ ¬ (0 < gS T m (gTo T N m i) 1 ∧ gOf N m (5 + (gTo T N m i)) = 0)
    · have hg0 := hcg.1
      have e14 : h 14 (gGo T m (gOf N m 0) i) = gDist T N m (gTo T N m i) := hA _ hg0 hg.2.1
      have hgx : 0 ≤ gGo T m (gOf N m 0) i ∧ gGo T m (gOf N m 0) i < gO T m 2 := ⟨hg0, hg.2.1⟩
      by_cases hdi : gDist T N m (gTo T N m i) = -1
      · have hwy : gWantF T N m i wd = wd := by
          unfold gWantF
          rw [if_neg]
          rintro ⟨z, _⟩
          unfold gWhy at z
          rw [if_neg (by omega), if_neg hcg.2, if_pos hdi] at z
          omega
        have hw0 : 0 ≤ (if wd = -1 then 0 else gWorth T N m wd) := by split <;> omega
        simp (disch := first | assumption | omega) only [st_X0_choose_0, st_X0_choose_1, ↓if_pos, ↓if_neg, if_pos, if_neg, ↓reduceIte, true_and, and_true, false_and, and_false, true_or, or_true, false_or, or_false, w32_id, Kv, Kn, fup_s, fup_a, fup_k, fup_fup, Int.reduceAdd, Int.reduceSub, Int.reduceMul, Int.reduceNeg, frow_rk, ep0, em0, em1, em2, D_canGo hPx hSx hT hRi hSi, if_pos hcg, D_target hPx hT hRi, e14, hdi]
        exact hKn _ _ hwy
      · have hdr := gDist_rng (T := T) (N := N) (m := m) (t := gTo T N m i)
        have ewo : w32 (gOf N m 2 * (7 - gDist T N m (gTo T N m i))) = gWorth T N m i := w32_id (by unfold gWorth at hwri; omega) (by unfold gWorth at hwri; omega)
        have hwy0 : gWhy T N m i = 0 := by
          unfold gWhy
          rw [if_neg (by omega), if_neg hcg.2, if_neg hdi, if_neg hc0]
        by_cases hgr : (if wd = -1 then 0 else gWorth T N m wd) < gWorth T N m i
        · have hwy : gWantF T N m i wd = i := by
            unfold gWantF
            rw [if_pos]
            refine ⟨hwy0, ?_⟩
            by_cases hw : wd = -1
            · exact Or.inl hw
            · rw [if_neg hw] at hgr; exact Or.inr hgr
          simp (disch := first | assumption | omega) only [st_X0_choose_0, st_X0_choose_1, ↓if_pos, ↓if_neg, if_pos, if_neg, ↓reduceIte, true_and, and_true, false_and, and_false, true_or, or_true, false_or, or_false, w32_id, Kv, Kn, fup_s, fup_a, fup_k, fup_fup, Int.reduceAdd, Int.reduceSub, Int.reduceMul, Int.reduceNeg, frow_rk, ep0, em0, em1, em2, D_canGo hPx hSx hT hRi hSi, if_pos hcg, D_target hPx hT hRi, e14, ewo, fup_frow, up1_up1]
          exact hKy _ _ hwy
        · have hwy : gWantF T N m i wd = wd := by
            unfold gWantF
            rw [if_neg]
            rintro ⟨_, z⟩
            by_cases hw : wd = -1
            · rw [if_pos hw] at hgr; omega
            · rw [if_neg hw] at hgr; omega
          simp (disch := first | assumption | omega) only [st_X0_choose_0, st_X0_choose_1, ↓if_pos, ↓if_neg, if_pos, if_neg, ↓reduceIte, true_and, and_true, false_and, and_false, true_or, or_true, false_or, or_false, w32_id, Kv, Kn, fup_s, fup_a, fup_k, fup_fup, Int.reduceAdd, Int.reduceSub, Int.reduceMul, Int.reduceNeg, frow_rk, ep0, em0, em1, em2, D_canGo hPx hSx hT hRi hSi, if_pos hcg, D_target hPx hT hRi, e14, ewo]
          have hw : wd ≠ -1 := fun z => by rw [if_pos z] at hgr; omega
          have hk := hKn (some (pI (gDist T N m (gTo T N m i)))) (some (pI (gWorth T N m i))) hwy
          rw [if_neg hw] at hk
          exact hk
    · have hwy : gWantF T N m i wd = wd := by
        unfold gWantF
        rw [if_neg]
        rintro ⟨z, _⟩
        exact hcg (gWhy_cg z)
      simp (disch := first | assumption | omega) only [st_X0_choose_0, st_X0_choose_1, ↓if_pos, ↓if_neg, if_pos, if_neg, ↓reduceIte, true_and, and_true, false_and, and_false, true_or, or_true, false_or, or_false, w32_id, Kv, Kn, fup_s, fup_a, fup_k, fup_fup, Int.reduceAdd, Int.reduceSub, Int.reduceMul, Int.reduceNeg, frow_rk, ep0, em0, em1, em2, D_canGo hPx hSx hT hRi hSi, if_neg hcg]
      exact hKn _ _ hwy
  · rintro L H R ⟨wd, x, y, rfl, rfl, rfl, hwd⟩
    rw [sh_X0_choose_13]
    have := fin wd x y (T 0) hwd
    simp (disch := first | assumption | omega) only [st_X0_choose_0, st_X0_choose_1, ↓if_pos, ↓if_neg, if_pos, if_neg, ↓reduceIte, true_and, and_true, false_and, and_false, true_or, or_true, false_or, or_false, w32_id, Kv, Kn, fup_s, fup_a, fup_k, fup_fup, Int.reduceAdd, Int.reduceSub, Int.reduceMul, Int.reduceNeg, frow_rk, ep0] at this ⊢
    exact this
