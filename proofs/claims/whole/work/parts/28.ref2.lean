def gTo (T N : Int → Int) (m l : Int) : Int := gGo T m (gOf N m 0) l
def gWhy (T N : Int → Int) (m l : Int) : Int := if gTo T N m l < 0 then 1 else if (0 < gS T m (gTo T N m l) 1 ∧ gOf N m (5 + (gTo T N m l)) = 0) then 2 else if gDist T N m (gTo T N m l) = -1 then 3 else if gOf N m 1 = 0 then 4 else 0
def gWorth (T N : Int → Int) (m l : Int) : Int := gOf N m 2 * (7 - gDist T N m (gTo T N m l))
theorem mul_bd {a b : Int} (h1 : 1 ≤ a) (h2 : a ≤ 9) (h3 : 1 ≤ b) (h4 : b ≤ 8) : 1 ≤ a * b ∧ a * b ≤ 72 := by
  have : a = 1 ∨ a = 2 ∨ a = 3 ∨ a = 4 ∨ a = 5 ∨ a = 6 ∨ a = 7 ∨ a = 8 ∨ a = 9 := by omega
  rcases this with rfl | rfl | rfl | rfl | rfl | rfl | rfl | rfl | rfl <;> omega
theorem gWorth_rng {T N : Int → Int} {m l : Int} (hN : NWf T N) (hm : 0 ≤ m) (hm2 : m < T 1) : 1 ≤ gWorth T N m l ∧ gWorth T N m l ≤ 72 := by
  have h1 := (hN.2.2.2.2.1 m hm hm2).2.2.1
  have h2 := gDist_rng (T := T) (N := N) (m := m) (t := gTo T N m l)
  exact mul_bd h1.1 h1.2 (by omega) (by omega)
theorem gWhy0 {T N : Int → Int} {m l : Int} (h : gWhy T N m l = 0) : 0 ≤ gTo T N m l := by
  unfold gWhy at h
  by_cases hc : gTo T N m l < 0
  · rw [if_pos hc] at h; omega
  · omega
def gWantF (T N : Int → Int) (m l b : Int) : Int := if gWhy T N m l = 0 ∧ (b = -1 ∨ gWorth T N m b < gWorth T N m l) then l else b
def gWant (T N : Int → Int) (m : Int) : Int := upto (gWantF T N m) (T 0).toNat (-1)
theorem gWantF_ok {T N : Int → Int} {m l b n : Int} (hl : 0 ≤ l) (hln : l < n) (hb : b = -1 ∨ (0 ≤ b ∧ b < n ∧ gWhy T N m b = 0)) : gWantF T N m l b = -1 ∨ (0 ≤ gWantF T N m l b ∧ gWantF T N m l b < n ∧ gWhy T N m (gWantF T N m l b) = 0) := by
  unfold gWantF
  by_cases hc : gWhy T N m l = 0 ∧ (b = -1 ∨ gWorth T N m b < gWorth T N m l)
  · rw [if_pos hc]; exact Or.inr ⟨hl, hln, hc.1⟩
  · rw [if_neg hc]; exact hb
theorem upto_ind {α : Type} {f : Int → α → α} {a : α} (P : Nat → α → Prop) (h0 : P 0 a) (n : Nat) (hs : ∀ k x, k < n → P k x → P (k + 1) (f k x)) : P n (upto f n a) := by
  induction n with
  | zero => exact h0
  | succ n ih => exact hs n _ (by omega) (ih (fun k x hk => hs k x (by omega)))
theorem gWant_ok {T N : Int → Int} {m : Int} (hT0 : 0 ≤ T 0) : gWant T N m = -1 ∨ (0 ≤ gWant T N m ∧ gWant T N m < T 0 ∧ gWhy T N m (gWant T N m) = 0) := by
  unfold gWant
  exact upto_ind (P := fun _ b => b = -1 ∨ (0 ≤ b ∧ b < T 0 ∧ gWhy T N m b = 0)) (Or.inl rfl) _ (fun k x hk hx => gWantF_ok (by omega) (by omega) hx)
def gBid (T N : Int → Int) (m : Int) : Int := if gWant T N m = -1 then 0 else if gWorth T N m (gWant T N m) < gOf N m 1 then gWorth T N m (gWant T N m) else gOf N m 1
theorem gBid_rng {T N : Int → Int} {m : Int} (hN : NWf T N) (hm : 0 ≤ m) (hm2 : m < T 1) : 0 ≤ gBid T N m ∧ gBid T N m ≤ 72 ∧ gBid T N m ≤ gOf N m 1 := by
  have h1 := gWorth_rng (l := gWant T N m) hN hm hm2
  have h2 := (hN.2.2.2.2.1 m hm hm2).2.1
  unfold gBid
  (repeat' split) <;> omega
def gSumF (T N : Int → Int) (l m a : Int) : Int := a + (if gWant T N m = l then gBid T N m else 0)
def gSum (T N : Int → Int) (l : Int) : Int := upto (gSumF T N l) (T 1).toNat 0
theorem gSumU_rng {T N : Int → Int} {l : Int} (hN : NWf T N) (n : Nat) (hn : (n : Int) ≤ T 1) : 0 ≤ upto (gSumF T N l) n 0 ∧ upto (gSumF T N l) n 0 ≤ 72 * n := by
  refine upto_ind (P := fun k a => 0 ≤ a ∧ a ≤ 72 * (k : Int)) ⟨by omega, by omega⟩ n (fun k x hk hx => ?_)
  have h1 := gBid_rng (m := k) hN (by omega) (by omega)
  unfold gSumF
  split <;> omega
def gBestF (T N : Int → Int) (l : Int) (p : Int × Int) : Int × Int := if p.2 < gSum T N l then (l, gSum T N l) else p
def gBest2 (T N : Int → Int) : Int × Int := upto (gBestF T N) (T 0).toNat (-1, 0)
def gBest (T N : Int → Int) : Int := (gBest2 T N).1
def gPriceF (T N : Int → Int) (w l mx : Int) : Int := if l ≠ w ∧ mx < gSum T N l then gSum T N l else mx
def gPrice (T N : Int → Int) (w : Int) : Int := if w = -1 then 0 else upto (gPriceF T N w) (T 0).toNat 0
theorem S_why {m l : Int} {nx : Nat} {h r : PF} {s : Int → Int} {Q : PO → PY → Nat → PC → Prop} (hW : WFr r) (hT : TWf (h 179)) (hN : NWf (h 179) (h 180)) (hm : 0 ≤ m) (hm2 : m < h 179 1) (hl : 0 ≤ l) (hl2 : l < 4) : Wp 163 0 [some (pR 178), some (pI m), some (pI l), none] [] LY nx (h, r, s) Q ↔ Q (Sum.inl (some (pI (gWhy (h 179) (h 180) m l)))) LY nx (h, r, s) := by
  have hT0 := hT.1
  have hT1 := hT.2.1
  have hTm := (hT.2.2.2.2.2 m hm hm2).1
  have hNm := hN.2.2.2.2.1 m hm hm2
  have hN0 := hNm.1
  have hN1 := hNm.2.1
  have hN2 := hNm.2.2.1
  have hg := gGo_lt (t := gOf (h 180) m 0) hT hm hm2 (by omega) (by omega) hl hl2
  unfold gWhy gTo
  by_cases hc : gGo (h 179) m (gOf (h 180) m 0) l < 0
  · skip
    simp (disch := first | assumption | omega) only [st_X8_why, ↓if_pos, ↓if_neg, if_pos, if_neg, ↓reduceIte, true_and, and_true, false_and, and_false, true_or, or_true, false_or, or_false, w32_id, Kv, Kn, fup_s, fup_a, fup_k, fup_fup, Int.reduceAdd, Int.reduceSub, Int.reduceMul, Int.reduceNeg, S_goOf, S_of, S_isTired, S_distanceOf]
  · skip
    simp (disch := first | assumption | omega) only [st_X8_why, ↓if_pos, ↓if_neg, if_pos, if_neg, ↓reduceIte, true_and, and_true, false_and, and_false, true_or, or_true, false_or, or_false, w32_id, Kv, Kn, fup_s, fup_a, fup_k, fup_fup, Int.reduceAdd, Int.reduceSub, Int.reduceMul, Int.reduceNeg, S_goOf, S_of, S_isTired, S_distanceOf]
    all_goals ((repeat' split) <;> first | rfl | (exfalso; omega) | (simp_all; done) | (exfalso; simp_all; done) | (exfalso; simp_all; omega))
theorem S_worth {m l : Int} {nx : Nat} {h r : PF} {s : Int → Int} {Q : PO → PY → Nat → PC → Prop} (hW : WFr r) (hT : TWf (h 179)) (hN : NWf (h 179) (h 180)) (hm : 0 ≤ m) (hm2 : m < h 179 1) (hl : 0 ≤ l) (hl2 : l < 4) (hg0 : 0 ≤ gTo (h 179) (h 180) m l) : Wp 164 0 [some (pR 178), some (pI m), some (pI l)] [] LY nx (h, r, s) Q ↔ Q (Sum.inl (some (pI (gWorth (h 179) (h 180) m l)))) LY nx (h, r, s) := by
  have hT0 := hT.1
  have hT1 := hT.2.1
  have hTm := (hT.2.2.2.2.2 m hm hm2).1
  have hNm := hN.2.2.2.2.1 m hm hm2
  have hN0 := hNm.1
  have hN1 := hNm.2.1
  have hN2 := hNm.2.2.1
  have hg := gGo_lt (t := gOf (h 180) m 0) hT hm hm2 (by omega) (by omega) hl hl2
  have hd := gDist_rng (T := (h 179)) (N := (h 180)) (m := m) (t := gGo (h 179) m (gOf (h 180) m 0) l)
  have hb := gWorth_rng (l := l) hN hm hm2
  unfold gTo at hg0
  have e1 : w32 (gOf (h 180) m 2 * (7 - gDist (h 179) (h 180) m (gGo (h 179) m (gOf (h 180) m 0) l))) = gWorth (h 179) (h 180) m l := w32_id (by unfold gWorth gTo at hb; omega) (by unfold gWorth gTo at hb; omega)
  simp (disch := first | assumption | omega) only [st_X8_worth, ↓if_pos, ↓if_neg, if_pos, if_neg, ↓reduceIte, true_and, and_true, false_and, and_false, true_or, or_true, false_or, or_false, w32_id, Kv, Kn, fup_s, fup_a, fup_k, fup_fup, Int.reduceAdd, Int.reduceSub, Int.reduceMul, Int.reduceNeg, S_goOf, S_of, S_distanceOf, e1]
theorem S_wanted {m : Int} {nx : Nat} {h r : PF} {s : Int → Int} {Q : PO → PY → Nat → PC → Prop} (hW : WFr r) (hT : TWf (h 179)) (hN : NWf (h 179) (h 180)) (hm : 0 ≤ m) (hm2 : m < h 179 1) : Wp 165 0 [some (pR 178), some (pI m), none, none] [] LY nx (h, r, s) Q ↔ Q (Sum.inl (some (pI (gWant (h 179) (h 180) m)))) LY nx (h, r, s) := by
  refine Wp.eq ?_
  have hT0 := hT.1
  have hT1 := hT.2.1
  have hTm := (hT.2.2.2.2.2 m hm hm2).1
  have hNm := hN.2.2.2.2.1 m hm hm2
  have hN0 := hNm.1
  have hN1 := hNm.2.1
  have hN2 := hNm.2.2.1
  simp (disch := first | assumption | omega) only [st_X8_wanted, ↓if_pos, ↓if_neg, if_pos, if_neg, ↓reduceIte, true_and, and_true, false_and, and_false, true_or, or_true, false_or, or_false, w32_id, Kv, Kn, fup_s, fup_a, fup_k, fup_fup, Int.reduceAdd, Int.reduceSub, Int.reduceMul, Int.reduceNeg]
  refine loopL (Inv := fun i L => ∃ b, L = [some (pR 178), some (pI m), some (pI b), some (pI i)] ∧ b = upto (gWantF (h 179) (h 180) m) i.toNat (-1) ∧ (b = -1 ∨ (0 ≤ b ∧ b < h 179 0 ∧ gWhy (h 179) (h 180) m b = 0))) (a := 0) (n := h 179 0) (by omega) ?_ ?_ _ ⟨_, rfl, rfl, Or.inl rfl⟩
  · rintro i L hi hi2 ⟨b, rfl, hb, hbo⟩ hK
    have hK2 : ∀ v, v = gWantF (h 179) (h 180) m i b → Wp 165 4 [some (pR 178), some (pI m), some (pI v), some (pI (i + 1))] [] LY nx (h, r, s) (fun o1 l1 n1 h1 => o1 = Sum.inl (some (pI (gWant (h 179) (h 180) m))) ∧ l1 = LY ∧ n1 = nx ∧ h1 = (h, r, s)) := by
      intro v hv
      refine hK _ ⟨v, rfl, ?_, ?_⟩
      · rw [upto_s hi, ← hb]; exact hv
      · rw [hv]; exact gWantF_ok hi hi2 hbo
    clear hK
    rw [sh_X8_wanted_4]
    by_cases hw : gWhy (h 179) (h 180) m i = 0
    · have hg0 := gWhy0 hw
      by_cases hb1 : b = -1
      · skip
        simp (disch := first | assumption | omega) only [st_X8_wanted, ↓if_pos, ↓if_neg, if_pos, if_neg, ↓reduceIte, true_and, and_true, false_and, and_false, true_or, or_true, false_or, or_false, w32_id, Kv, Kn, fup_s, fup_a, fup_k, fup_fup, Int.reduceAdd, Int.reduceSub, Int.reduceMul, Int.reduceNeg, S_why]
        refine hK2 _ ?_
        unfold gWantF
        rw [if_pos ⟨hw, Or.inl hb1⟩]
      · have hb2 : 0 ≤ b ∧ b < h 179 0 ∧ gWhy (h 179) (h 180) m b = 0 := by omega
        have hg1 := gWhy0 hb2.2.2
        simp (disch := first | assumption | omega) only [st_X8_wanted, ↓if_pos, ↓if_neg, if_pos, if_neg, ↓reduceIte, true_and, and_true, false_and, and_false, true_or, or_true, false_or, or_false, w32_id, Kv, Kn, fup_s, fup_a, fup_k, fup_fup, Int.reduceAdd, Int.reduceSub, Int.reduceMul, Int.reduceNeg, S_why, S_worth]
        by_cases hc : gWorth (h 179) (h 180) m i ≤ gWorth (h 179) (h 180) m b
        · rw [if_pos hc]
          refine hK2 _ ?_
          unfold gWantF
          rw [if_neg (by omega)]
        · rw [if_neg hc]
          refine hK2 _ ?_
          unfold gWantF
          rw [if_pos ⟨hw, Or.inr (by omega)⟩]
    · skip
      simp (disch := first | assumption | omega) only [st_X8_wanted, ↓if_pos, ↓if_neg, if_pos, if_neg, ↓reduceIte, true_and, and_true, false_and, and_false, true_or, or_true, false_or, or_false, w32_id, Kv, Kn, fup_s, fup_a, fup_k, fup_fup, Int.reduceAdd, Int.reduceSub, Int.reduceMul, Int.reduceNeg, S_why]
      refine hK2 _ ?_
      unfold gWantF
      rw [if_neg (fun z => hw z.1)]
  · rintro L ⟨b, rfl, hb, hbo⟩
    rw [sh_X8_wanted_4]
    simp (disch := first | assumption | omega) only [st_X8_wanted, ↓if_pos, ↓if_neg, if_pos, if_neg, ↓reduceIte, true_and, and_true, false_and, and_false, true_or, or_true, false_or, or_false, w32_id, Kv, Kn, fup_s, fup_a, fup_k, fup_fup, Int.reduceAdd, Int.reduceSub, Int.reduceMul, Int.reduceNeg]
    all_goals (rw [hb]; rfl)
theorem S_bidOf {m : Int} {nx : Nat} {h r : PF} {s : Int → Int} {Q : PO → PY → Nat → PC → Prop} (hW : WFr r) (hT : TWf (h 179)) (hN : NWf (h 179) (h 180)) (hm : 0 ≤ m) (hm2 : m < h 179 1) : Wp 166 0 [some (pR 178), some (pI m), none, none] [] LY nx (h, r, s) Q ↔ Q (Sum.inl (some (pI (gBid (h 179) (h 180) m)))) LY nx (h, r, s) := by
  have hT0 := hT.1
  have hT1 := hT.2.1
  have hTm := (hT.2.2.2.2.2 m hm hm2).1
  have hNm := hN.2.2.2.2.1 m hm hm2
  have hN0 := hNm.1
  have hN1 := hNm.2.1
  have hN2 := hNm.2.2.1
  have hw := gWant_ok (T := (h 179)) (N := (h 180)) (m := m) (by omega)
  unfold gBid
  by_cases hc : gWant (h 179) (h 180) m = -1
  · skip
    simp (disch := first | assumption | omega) only [st_X8_bidOf, ↓if_pos, ↓if_neg, if_pos, if_neg, ↓reduceIte, true_and, and_true, false_and, and_false, true_or, or_true, false_or, or_false, w32_id, Kv, Kn, fup_s, fup_a, fup_k, fup_fup, Int.reduceAdd, Int.reduceSub, Int.reduceMul, Int.reduceNeg, S_wanted]
  · have hw2 : 0 ≤ gWant (h 179) (h 180) m ∧ gWant (h 179) (h 180) m < h 179 0 ∧ gWhy (h 179) (h 180) m (gWant (h 179) (h 180) m) = 0 := by omega
    have hg1 := gWhy0 hw2.2.2
    simp (disch := first | assumption | omega) only [st_X8_bidOf, ↓if_pos, ↓if_neg, if_pos, if_neg, ↓reduceIte, true_and, and_true, false_and, and_false, true_or, or_true, false_or, or_false, w32_id, Kv, Kn, fup_s, fup_a, fup_k, fup_fup, Int.reduceAdd, Int.reduceSub, Int.reduceMul, Int.reduceNeg, S_wanted, S_worth, S_of]
    all_goals ((repeat' split) <;> first | rfl | (exfalso; omega) | (simp_all; done) | (exfalso; simp_all; done) | (exfalso; simp_all; omega))
theorem S_sumOf {l : Int} {nx : Nat} {h r : PF} {s : Int → Int} {Q : PO → PY → Nat → PC → Prop} (hW : WFr r) (hT : TWf (h 179)) (hN : NWf (h 179) (h 180)) : Wp 167 0 [some (pR 178), some (pI l), none, none] [] LY nx (h, r, s) Q ↔ Q (Sum.inl (some (pI (gSum (h 179) (h 180) l)))) LY nx (h, r, s) := by
  refine Wp.eq ?_
  have hT0 := hT.1
  have hT1 := hT.2.1
  simp (disch := first | assumption | omega) only [st_X8_sumOf, ↓if_pos, ↓if_neg, if_pos, if_neg, ↓reduceIte, true_and, and_true, false_and, and_false, true_or, or_true, false_or, or_false, w32_id, Kv, Kn, fup_s, fup_a, fup_k, fup_fup, Int.reduceAdd, Int.reduceSub, Int.reduceMul, Int.reduceNeg]
  refine loopL (Inv := fun i L => L = [some (pR 178), some (pI l), some (pI (upto (gSumF (h 179) (h 180) l) i.toNat 0)), some (pI i)]) (a := 0) (n := h 179 1) (by omega) ?_ ?_ _ rfl
  · rintro i L hi hi2 rfl hK
    have h1 := gSumU_rng (l := l) hN i.toNat (by omega)
    have h2 := gBid_rng (m := i) hN hi hi2
    rw [sh_X8_sumOf_4]
    simp (disch := first | assumption | omega) only [st_X8_sumOf, ↓if_pos, ↓if_neg, if_pos, if_neg, ↓reduceIte, true_and, and_true, false_and, and_false, true_or, or_true, false_or, or_false, w32_id, Kv, Kn, fup_s, fup_a, fup_k, fup_fup, Int.reduceAdd, Int.reduceSub, Int.reduceMul, Int.reduceNeg, S_wanted, S_bidOf]
    split
    · refine hK _ ?_
      rw [upto_s hi]
      simp only [gSumF, *, if_neg, ne_eq, not_false_eq_true, Int.add_zero, if_false]
    · refine hK _ ?_
      rw [upto_s hi]
      simp only [gSumF]
      rw [if_pos (by omega)]
  · rintro L rfl
    rw [sh_X8_sumOf_4]
    simp (disch := first | assumption | omega) only [st_X8_sumOf, ↓if_pos, ↓if_neg, if_pos, if_neg, ↓reduceIte, true_and, and_true, false_and, and_false, true_or, or_true, false_or, or_false, w32_id, Kv, Kn, fup_s, fup_a, fup_k, fup_fup, Int.reduceAdd, Int.reduceSub, Int.reduceMul, Int.reduceNeg]
    all_goals first | rfl | exact ⟨rfl, rfl, rfl, rfl⟩
theorem S_bestLetter {nx : Nat} {h r : PF} {s : Int → Int} {Q : PO → PY → Nat → PC → Prop} (hW : WFr r) (hT : TWf (h 179)) (hN : NWf (h 179) (h 180)) : Wp 168 0 [some (pR 178), none, none, none, none] [] LY nx (h, r, s) Q ↔ Q (Sum.inl (some (pI (gBest (h 179) (h 180))))) LY nx (h, r, s) := by
  refine Wp.eq ?_
  have hT0 := hT.1
  have hT1 := hT.2.1
  simp (disch := first | assumption | omega) only [st_X8_bestLetter, ↓if_pos, ↓if_neg, if_pos, if_neg, ↓reduceIte, true_and, and_true, false_and, and_false, true_or, or_true, false_or, or_false, w32_id, Kv, Kn, fup_s, fup_a, fup_k, fup_fup, Int.reduceAdd, Int.reduceSub, Int.reduceMul, Int.reduceNeg]
  refine loopL (Inv := fun i L => ∃ x, L = [some (pR 178), some (pI (upto (gBestF (h 179) (h 180)) i.toNat (-1, 0)).1), some (pI (upto (gBestF (h 179) (h 180)) i.toNat (-1, 0)).2), some (pI i), x]) (a := 0) (n := h 179 0) (by omega) ?_ ?_ _ ⟨_, rfl⟩
  · rintro i L hi hi2 ⟨x, rfl⟩ hK
    rw [sh_X8_bestLetter_6]
    simp (disch := first | assumption | omega) only [st_X8_bestLetter, ↓if_pos, ↓if_neg, if_pos, if_neg, ↓reduceIte, true_and, and_true, false_and, and_false, true_or, or_true, false_or, or_false, w32_id, Kv, Kn, fup_s, fup_a, fup_k, fup_fup, Int.reduceAdd, Int.reduceSub, Int.reduceMul, Int.reduceNeg, S_sumOf]
    rw [upto_s hi] at hK
    generalize upto (gBestF (h 179) (h 180)) i.toNat (-1, 0) = p at hK ⊢
    unfold gBestF at hK
    by_cases hc : p.2 < gSum (h 179) (h 180) i
    · rw [if_neg (by omega)]
      rw [if_pos hc] at hK
      exact hK _ ⟨_, rfl⟩
    · rw [if_pos (by omega)]
      rw [if_neg hc] at hK
      exact hK _ ⟨_, rfl⟩
  · rintro L ⟨x, rfl⟩
    rw [sh_X8_bestLetter_6]
    simp (disch := first | assumption | omega) only [st_X8_bestLetter, ↓if_pos, ↓if_neg, if_pos, if_neg, ↓reduceIte, true_and, and_true, false_and, and_false, true_or, or_true, false_or, or_false, w32_id, Kv, Kn, fup_s, fup_a, fup_k, fup_fup, Int.reduceAdd, Int.reduceSub, Int.reduceMul, Int.reduceNeg]
    all_goals first | rfl | exact ⟨rfl, rfl, rfl, rfl⟩
theorem S_priceOf {w : Int} {nx : Nat} {h r : PF} {s : Int → Int} {Q : PO → PY → Nat → PC → Prop} (hW : WFr r) (hT : TWf (h 179)) (hN : NWf (h 179) (h 180)) : Wp 169 0 [some (pR 178), some (pI w), none, none, none] [] LY nx (h, r, s) Q ↔ Q (Sum.inl (some (pI (gPrice (h 179) (h 180) w)))) LY nx (h, r, s) := by
  refine Wp.eq ?_
  have hT0 := hT.1
  have hT1 := hT.2.1
  unfold gPrice
  by_cases hw : w = -1
  · rw [if_pos hw]
    simp (disch := first | assumption | omega) only [st_X8_priceOf, ↓if_pos, ↓if_neg, if_pos, if_neg, ↓reduceIte, true_and, and_true, false_and, and_false, true_or, or_true, false_or, or_false, w32_id, Kv, Kn, fup_s, fup_a, fup_k, fup_fup, Int.reduceAdd, Int.reduceSub, Int.reduceMul, Int.reduceNeg, sh_X8_priceOf_4]
  rw [if_neg hw]
  simp (disch := first | assumption | omega) only [st_X8_priceOf, ↓if_pos, ↓if_neg, if_pos, if_neg, ↓reduceIte, true_and, and_true, false_and, and_false, true_or, or_true, false_or, or_false, w32_id, Kv, Kn, fup_s, fup_a, fup_k, fup_fup, Int.reduceAdd, Int.reduceSub, Int.reduceMul, Int.reduceNeg]
  refine loopL (Inv := fun i L => ∃ x, L = [some (pR 178), some (pI w), some (pI (upto (gPriceF (h 179) (h 180) w) i.toNat 0)), some (pI i), x]) (a := 0) (n := h 179 0) (by omega) ?_ ?_ _ ⟨_, rfl⟩
  · rintro i L hi hi2 ⟨x, rfl⟩ hK
    rw [upto_s hi] at hK
    have h0 : 0 ≤ upto (gPriceF (h 179) (h 180) w) i.toNat 0 := upto_ind (P := fun _ a => 0 ≤ a) (by omega) _ (fun k x hk hx => by unfold gPriceF; split <;> omega)
    rw [sh_X8_priceOf_4]
    generalize upto (gPriceF (h 179) (h 180) w) i.toNat 0 = p at hK h0 ⊢
    unfold gPriceF at hK
    by_cases hc : i = w
    · rw [if_neg (by omega)] at hK
      simp (disch := first | assumption | omega) only [st_X8_priceOf, ↓if_pos, ↓if_neg, if_pos, if_neg, ↓reduceIte, true_and, and_true, false_and, and_false, true_or, or_true, false_or, or_false, w32_id, Kv, Kn, fup_s, fup_a, fup_k, fup_fup, Int.reduceAdd, Int.reduceSub, Int.reduceMul, Int.reduceNeg, S_sumOf]
      exact hK _ ⟨_, rfl⟩
    · by_cases hc2 : p < gSum (h 179) (h 180) i
      · rw [if_pos ⟨hc, hc2⟩] at hK
        simp (disch := first | assumption | omega) only [st_X8_priceOf, ↓if_pos, ↓if_neg, if_pos, if_neg, ↓reduceIte, true_and, and_true, false_and, and_false, true_or, or_true, false_or, or_false, w32_id, Kv, Kn, fup_s, fup_a, fup_k, fup_fup, Int.reduceAdd, Int.reduceSub, Int.reduceMul, Int.reduceNeg, S_sumOf]
        exact hK _ ⟨_, rfl⟩
      · rw [if_neg (by omega)] at hK
        simp (disch := first | assumption | omega) only [st_X8_priceOf, ↓if_pos, ↓if_neg, if_pos, if_neg, ↓reduceIte, true_and, and_true, false_and, and_false, true_or, or_true, false_or, or_false, w32_id, Kv, Kn, fup_s, fup_a, fup_k, fup_fup, Int.reduceAdd, Int.reduceSub, Int.reduceMul, Int.reduceNeg, S_sumOf]
        exact hK _ ⟨_, rfl⟩
  · rintro L ⟨x, rfl⟩
    rw [sh_X8_priceOf_4]
    simp (disch := first | assumption | omega) only [st_X8_priceOf, ↓if_pos, ↓if_neg, if_pos, if_neg, ↓reduceIte, true_and, and_true, false_and, and_false, true_or, or_true, false_or, or_false, w32_id, Kv, Kn, fup_s, fup_a, fup_k, fup_fup, Int.reduceAdd, Int.reduceSub, Int.reduceMul, Int.reduceNeg]
    all_goals first | rfl | exact ⟨rfl, rfl, rfl, rfl⟩
