/-! THE CLASS: its plan and its standings against the two rows -/
def PlanRel (h : PF) (p : Int) (T : Int → Int) : Prop := (h p 0 = T 0 ∧ h p 1 = T 1 ∧ h p 3 = T 2 ∧ h p 4 = T 3 ∧ 0 ≤ h p 2 ∧ h p 2 < 64) ∧ ∀ m, 0 ≤ m → m < T 1 → (h (p + 1) m = gO T m 0 ∧ h (p + 2) m = gO T m 1 ∧ h (p + 3) m = gO T m 2 ∧ (pand (pshr (h p 2) m) 1 = 1 ↔ gO T m 3 = 1) ∧ 0 ≤ h (p + 4) m ∧ h (p + 4) m < 64) ∧ ∀ t, 0 ≤ t → t < 6 → ((pand (pshr (h (p + 4) m) t) 1 = 1 ↔ gS T m t 0 = 1) ∧ h (p + 5) (m * 6 + t) = (if gS T m t 1 = 0 then -1 else gS T m t 1)) ∧ ∀ l, 0 ≤ l → l < 4 → h (p + 6) ((m * 6 + t) * 4 + l) = gGo T m t l
def logIx (e k : Int) : Int := if e - 1 - k < 0 then e - 1 - k + 20 else e - 1 - k
def StRel (h : PF) (b : Int) (T N : Int → Int) : Prop := (h b 8 = N 3 ∧ h b 9 = N 0 ∧ h b 10 = N 1 ∧ h b 11 = N 2 ∧ h b 13 = N 108 ∧ 0 ≤ h b 14 ∧ h b 14 < 20 ∧ w32 (N 191) = N 191 ∧ w32 (N 189) = N 189) ∧ (∀ k, 0 ≤ k → k < N 3 → h (b + 7) k = N (4 + k)) ∧ (∀ i, 0 ≤ i → i < 6 → h (b + 8) i = N (189 + i)) ∧ (∀ k i, 0 ≤ k → k < N 108 → 0 ≤ i → i < 4 → h (b + 9) (logIx (h b 14) k * 4 + i) = N (109 + 4 * k + i)) ∧ ∀ m, 0 ≤ m → m < T 1 → (h (b + 1) m = gOf N m 0 ∧ h (b + 2) m = gOf N m 1 ∧ h (b + 3) m = gOf N m 2 ∧ h (b + 4) m = gOf N m 3 ∧ h (b + 5) m = gOf N m 4) ∧ ∀ t, 0 ≤ t → t < 6 → h (b + 6) (m * 6 + t) = if gS T m t 1 = 0 then -1 else gOf N m (5 + t)
/-- the rows of a plan and of a standing, one by one -/
theorem pr_go {h : PF} {p : Int} {T : Int → Int} (hR : PlanRel h p T) : ∀ m t l, 0 ≤ m → m < T 1 → 0 ≤ t → t < 6 → 0 ≤ l → l < 4 → h (p + 6) ((m * 6 + t) * 4 + l) = gGo T m t l := fun m t l h1 h2 h3 h4 h5 h6 => ((hR.2 m h1 h2).2 t h3 h4).2 l h5 h6
theorem pr_end {h : PF} {p : Int} {T : Int → Int} (hR : PlanRel h p T) : ∀ m t, 0 ≤ m → m < T 1 → 0 ≤ t → t < 6 → (pand (pshr (h (p + 4) m) t) 1 = 1 ↔ gS T m t 0 = 1) := fun m t h1 h2 h3 h4 => ((hR.2 m h1 h2).2 t h3 h4).1.1
theorem st_str {h : PF} {b : Int} {T N : Int → Int} (hS : StRel h b T N) : ∀ m t, 0 ≤ m → m < T 1 → 0 ≤ t → t < 6 → h (b + 6) (m * 6 + t) = if gS T m t 1 = 0 then -1 else gOf N m (5 + t) := fun m t h1 h2 h3 h4 => (hS.2.2.2.2 m h1 h2).2 t h3 h4
theorem st_m {h : PF} {b : Int} {T N : Int → Int} (hS : StRel h b T N) {m : Int} (h1 : 0 ≤ m) (h2 : m < T 1) : h (b + 1) m = gOf N m 0 ∧ h (b + 2) m = gOf N m 1 ∧ h (b + 3) m = gOf N m 2 ∧ h (b + 4) m = gOf N m 3 ∧ h (b + 5) m = gOf N m 4 := (hS.2.2.2.2 m h1 h2).1
theorem tired_iff {T N : Int → Int} {m t : Int} (hT : TWf T) (hm : 0 ≤ m) (hm2 : m < 4) (ht : 0 ≤ t) (ht2 : t < 6) : (if gS T m t 1 = 0 then (-1 : Int) else gOf N m (5 + t)) = 0 ↔ (0 < gS T m t 1 ∧ gOf N m (5 + t) = 0) := by
  have h := hT.2.2.2.2.1 (4 + 40 * m + (4 + 6 * t + 1)) (by omega) (by omega)
  have h2 : 0 ≤ gS T m t 1 := by unfold gS gO; exact h.1
  by_cases hc : gS T m t 1 = 0
  · rw [if_pos hc]; constructor; intro z; omega; intro z; omega
  · rw [if_neg hc]; constructor; intro z; exact ⟨by omega, z⟩; intro z; exact z.2
theorem C_target {p m t l : Int} {nx : Nat} {h r : PF} {s : Int → Int} {Q : PO → PY → Nat → PC → Prop} (hP : PlOk r p) (hm : 0 ≤ m) (hm2 : m < 4) (ht : 0 ≤ t) (ht2 : t < 6) (hl : 0 ≤ l) (hl2 : l < 4) : Wp 20 0 [some (pR p), some (pI m), some (pI t), some (pI l)] [] LY nx (h, r, s) Q ↔ Q (Sum.inl (some (pI (h (p + 6) ((m * 6 + t) * 4 + l))))) LY nx (h, r, s) := by
  obtain ⟨⟨hp0, hpk⟩, ⟨hpr5, hpp5, hpd5⟩, ⟨hpr6, hpp6, hpd6⟩, ⟨hpr7, hpp7, hpd7⟩, ⟨hpr8, hpp8, hpd8⟩, ⟨hpr9, hpp9, hpd9⟩, ⟨hpr10, hpp10, hpd10⟩⟩ := hP
  simp (disch := first | assumption | omega) only [st_X2_target, ↓if_pos, ↓if_neg, if_pos, if_neg, ↓reduceIte, true_and, and_true, false_and, and_false, true_or, or_true, false_or, or_false, w32_id, Kv, Kn, fup_s, fup_a, fup_k, fup_fup, Int.reduceAdd, Int.reduceSub, Int.reduceMul, Int.reduceNeg]
theorem C_isGoal {p m t : Int} {nx : Nat} {h r : PF} {s : Int → Int} {Q : PO → PY → Nat → PC → Prop} (hP : PlOk r p) (hm : 0 ≤ m) (hm2 : m < 4) : Wp 22 0 [some (pR p), some (pI m), some (pI t)] [] LY nx (h, r, s) Q ↔ if pand (pshr (h (p + 4) m) t) 1 = 1 then Q (Sum.inl (some (pI 1))) LY nx (h, r, s) else Q (Sum.inl (some (pI 0))) LY nx (h, r, s) := by
  obtain ⟨⟨hp0, hpk⟩, ⟨hpr5, hpp5, hpd5⟩, ⟨hpr6, hpp6, hpd6⟩, ⟨hpr7, hpp7, hpd7⟩, ⟨hpr8, hpp8, hpd8⟩, ⟨hpr9, hpp9, hpd9⟩, ⟨hpr10, hpp10, hpd10⟩⟩ := hP
  simp (disch := first | assumption | omega) only [st_X2_isGoal, ↓if_pos, ↓if_neg, if_pos, if_neg, ↓reduceIte, true_and, and_true, false_and, and_false, true_or, or_true, false_or, or_false, w32_id, Kv, Kn, fup_s, fup_a, fup_k, fup_fup, Int.reduceAdd, Int.reduceSub, Int.reduceMul, Int.reduceNeg]
  all_goals ((repeat' split) <;> first | rfl | (exfalso; omega) | (trace_state; done))
theorem C_isListening {p m : Int} {nx : Nat} {h r : PF} {s : Int → Int} {Q : PO → PY → Nat → PC → Prop} (hP : PlOk r p) : Wp 23 0 [some (pR p), some (pI m)] [] LY nx (h, r, s) Q ↔ if pand (pshr (h p 2) m) 1 = 1 then Q (Sum.inl (some (pI 1))) LY nx (h, r, s) else Q (Sum.inl (some (pI 0))) LY nx (h, r, s) := by
  obtain ⟨⟨hp0, hpk⟩, ⟨hpr5, hpp5, hpd5⟩, ⟨hpr6, hpp6, hpd6⟩, ⟨hpr7, hpp7, hpd7⟩, ⟨hpr8, hpp8, hpd8⟩, ⟨hpr9, hpp9, hpd9⟩, ⟨hpr10, hpp10, hpd10⟩⟩ := hP
  simp (disch := first | assumption | omega) only [st_X2_isListening, ↓if_pos, ↓if_neg, if_pos, if_neg, ↓reduceIte, true_and, and_true, false_and, and_false, true_or, or_true, false_or, or_false, w32_id, Kv, Kn, fup_s, fup_a, fup_k, fup_fup, Int.reduceAdd, Int.reduceSub, Int.reduceMul, Int.reduceNeg]
  all_goals ((repeat' split) <;> first | rfl | (exfalso; omega) | (trace_state; done))
theorem C_isTired {b m t : Int} {nx : Nat} {h r : PF} {s : Int → Int} {Q : PO → PY → Nat → PC → Prop} (hS0 : StOk r b) (hm : 0 ≤ m) (hm2 : m < 4) (ht : 0 ≤ t) (ht2 : t < 6) : Wp 57 0 [some (pR b), some (pI m), some (pI t)] [] LY nx (h, r, s) Q ↔ if h (b + 6) (m * 6 + t) = 0 then Q (Sum.inl (some (pI 1))) LY nx (h, r, s) else Q (Sum.inl (some (pI 0))) LY nx (h, r, s) := by
  obtain ⟨⟨hs0, hsk⟩, ⟨hsr0, hsp0, hsd0⟩, ⟨hsr1, hsp1, hsd1⟩, ⟨hsr2, hsp2, hsd2⟩, ⟨hsr3, hsp3, hsd3⟩, ⟨hsr4, hsp4, hsd4⟩, ⟨hsr5, hsp5, hsd5⟩, ⟨hsr6, hsp6, hsd6⟩, ⟨hsr7, hsp7, hsd7⟩, ⟨hsr12, hsp12, hsd12⟩⟩ := hS0
  simp (disch := first | assumption | omega) only [st_X5_isTired, ↓if_pos, ↓if_neg, if_pos, if_neg, ↓reduceIte, true_and, and_true, false_and, and_false, true_or, or_true, false_or, or_false, w32_id, Kv, Kn, fup_s, fup_a, fup_k, fup_fup, Int.reduceAdd, Int.reduceSub, Int.reduceMul, Int.reduceNeg]
  all_goals ((repeat' split) <;> first | rfl | (exfalso; omega) | (trace_state; done))
theorem D_isTired {b m t : Int} {T N : Int → Int} {nx : Nat} {h r : PF} {s : Int → Int} {Q : PO → PY → Nat → PC → Prop} (hS0 : StOk r b) (hT : TWf T) (hS : StRel h b T N) (hm : 0 ≤ m) (hm2 : m < T 1) (ht : 0 ≤ t) (ht2 : t < 6) : Wp 57 0 [some (pR b), some (pI m), some (pI t)] [] LY nx (h, r, s) Q ↔ if (0 < gS T m t 1 ∧ gOf N m (5 + t) = 0) then Q (Sum.inl (some (pI 1))) LY nx (h, r, s) else Q (Sum.inl (some (pI 0))) LY nx (h, r, s) := by
  have hT0 := hT.1
  have hT1 := hT.2.1
  have hTm := (hT.2.2.2.2.2 m hm hm2).1
  rw [C_isTired hS0 hm (by omega) ht ht2, st_str hS m t hm hm2 ht ht2]
  by_cases hc : (0 < gS T m t 1 ∧ gOf N m (5 + t) = 0)
  · rw [if_pos ((tired_iff hT hm (by omega) ht ht2).mpr hc), if_pos hc]
  · rw [if_neg (fun z => hc ((tired_iff hT hm (by omega) ht ht2).mp z)), if_neg hc]
theorem D_target {p m t l : Int} {T : Int → Int} {nx : Nat} {h r : PF} {s : Int → Int} {Q : PO → PY → Nat → PC → Prop} (hP : PlOk r p) (hT : TWf T) (hR : PlanRel h p T) (hm : 0 ≤ m) (hm2 : m < T 1) (ht : 0 ≤ t) (ht2 : t < 6) (hl : 0 ≤ l) (hl2 : l < 4) : Wp 20 0 [some (pR p), some (pI m), some (pI t), some (pI l)] [] LY nx (h, r, s) Q ↔ Q (Sum.inl (some (pI (gGo T m t l)))) LY nx (h, r, s) := by
  have hT0 := hT.1
  have hT1 := hT.2.1
  have hTm := (hT.2.2.2.2.2 m hm hm2).1
  rw [C_target hP hm (by omega) ht ht2 hl hl2, pr_go hR m t l hm hm2 ht ht2 hl hl2]
theorem D_isGoal {p m t : Int} {T : Int → Int} {nx : Nat} {h r : PF} {s : Int → Int} {Q : PO → PY → Nat → PC → Prop} (hP : PlOk r p) (hT : TWf T) (hR : PlanRel h p T) (hm : 0 ≤ m) (hm2 : m < T 1) (ht : 0 ≤ t) (ht2 : t < 6) : Wp 22 0 [some (pR p), some (pI m), some (pI t)] [] LY nx (h, r, s) Q ↔ if gS T m t 0 = 1 then Q (Sum.inl (some (pI 1))) LY nx (h, r, s) else Q (Sum.inl (some (pI 0))) LY nx (h, r, s) := by
  have hT0 := hT.1
  have hT1 := hT.2.1
  have hTm := (hT.2.2.2.2.2 m hm hm2).1
  rw [C_isGoal hP hm (by omega)]
  have e := pr_end hR m t hm hm2 ht ht2
  by_cases hc : gS T m t 0 = 1
  · rw [if_pos (e.mpr hc), if_pos hc]
  · rw [if_neg (fun z => hc (e.mp z)), if_neg hc]
theorem D_canGo {p b m l : Int} {T N : Int → Int} {nx : Nat} {h r : PF} {s : Int → Int} {Q : PO → PY → Nat → PC → Prop} (hP : PlOk r p) (hS0 : StOk r b) (hT : TWf T) (hR : PlanRel h p T) (hS : StRel h b T N) (hm : 0 ≤ m) (hm2 : m < T 1) (hst : 0 ≤ gOf N m 0 ∧ gOf N m 0 < gO T m 2) (hl : 0 ≤ l) (hl2 : l < 4) : Wp 58 0 [some (pR b), some (pR p), some (pI m), some (pI l), none] [] LY nx (h, r, s) Q ↔ if 0 ≤ gTo T N m l ∧ ¬ (0 < gS T m (gTo T N m l) 1 ∧ gOf N m (5 + (gTo T N m l)) = 0) then Q (Sum.inl (some (pI 1))) LY nx (h, r, s) else Q (Sum.inl (some (pI 0))) LY nx (h, r, s) := by
  have hT0 := hT.1
  have hT1 := hT.2.1
  have hTm := (hT.2.2.2.2.2 m hm hm2).1
  obtain ⟨⟨hs0, hsk⟩, ⟨hsr0, hsp0, hsd0⟩, ⟨hsr1, hsp1, hsd1⟩, ⟨hsr2, hsp2, hsd2⟩, ⟨hsr3, hsp3, hsd3⟩, ⟨hsr4, hsp4, hsd4⟩, ⟨hsr5, hsp5, hsd5⟩, ⟨hsr6, hsp6, hsd6⟩, ⟨hsr7, hsp7, hsd7⟩, ⟨hsr12, hsp12, hsd12⟩⟩ := hS0
  have hSx : StOk r b := ⟨⟨hs0, hsk⟩, ⟨hsr0, hsp0, hsd0⟩, ⟨hsr1, hsp1, hsd1⟩, ⟨hsr2, hsp2, hsd2⟩, ⟨hsr3, hsp3, hsd3⟩, ⟨hsr4, hsp4, hsd4⟩, ⟨hsr5, hsp5, hsd5⟩, ⟨hsr6, hsp6, hsd6⟩, ⟨hsr7, hsp7, hsd7⟩, ⟨hsr12, hsp12, hsd12⟩⟩
  have hP1 := hP.1
  have hP0 := hP1.1
  have hPk := hP1.2
  have e0 := (st_m hS hm hm2).1
  have hg := gGo_lt (t := gOf N m 0) hT hm hm2 hst.1 (by omega) hl hl2
  unfold gTo
  by_cases hc : gGo T m (gOf N m 0) l = -1
  · rw [if_neg (by omega)]
    simp (disch := first | assumption | omega) only [st_X5_canGo, ↓if_pos, ↓if_neg, if_pos, if_neg, ↓reduceIte, true_and, and_true, false_and, and_false, true_or, or_true, false_or, or_false, w32_id, Kv, Kn, fup_s, fup_a, fup_k, fup_fup, Int.reduceAdd, Int.reduceSub, Int.reduceMul, Int.reduceNeg, e0, D_target hP hT hR, hc]
  · skip
    simp (disch := first | assumption | omega) only [st_X5_canGo, ↓if_pos, ↓if_neg, if_pos, if_neg, ↓reduceIte, true_and, and_true, false_and, and_false, true_or, or_true, false_or, or_false, w32_id, Kv, Kn, fup_s, fup_a, fup_k, fup_fup, Int.reduceAdd, Int.reduceSub, Int.reduceMul, Int.reduceNeg, e0, D_target hP hT hR, D_isTired hSx hT hS]
    (repeat' split) <;> first | rfl | (exfalso; omega)
theorem D_isNextTo {p b m t k : Int} {T N : Int → Int} {nx : Nat} {h r : PF} {s : Int → Int} {Q : PO → PY → Nat → PC → Prop} (hW : WFr r) (hP : PlOk r p) (hS0 : StOk r b) (hT : TWf T) (hR : PlanRel h p T) (hS : StRel h b T N) (hm : 0 ≤ m) (hm2 : m < T 1) (ht : 0 ≤ t) (ht2 : t < 6) (d : Int) (hd : d = 0 ∨ d = 1) (hde : d = 1 ↔ ∃ l, 0 ≤ l ∧ l < T 0 ∧ gGo T m t l ≠ -1 ∧ h 14 (gGo T m t l) = k ∧ ¬ (0 < gS T m (gGo T m t l) 1 ∧ gOf N m (5 + (gGo T m t l)) = 0)) (K : Q (Sum.inl (some (pI d))) LY nx (h, r, s)) : Wp 2 0 [some (pR 9), some (pR p), some (pR b), some (pI m), some (pI t), some (pI k), none, none] [] LY nx (h, r, s) Q := by
  have hT0 := hT.1
  have hT1 := hT.2.1
  have hTm := (hT.2.2.2.2.2 m hm hm2).1
  have hP1 := hP.1
  have hP0 := hP1.1
  have hPk := hP1.2
  have hS1 := hS0.1
  have hS10 := hS1.1
  have hS1k := hS1.2
  have ep0 := hR.1.1
  simp (disch := first | assumption | omega) only [st_X0_isNextTo, ↓if_pos, ↓if_neg, if_pos, if_neg, ↓reduceIte, true_and, and_true, false_and, and_false, true_or, or_true, false_or, or_false, w32_id, Kv, Kn, fup_s, fup_a, fup_k, fup_fup, Int.reduceAdd, Int.reduceSub, Int.reduceMul, Int.reduceNeg]
  refine loopL (Inv := fun i L => (∃ x, L = [some (pR 9), some (pR p), some (pR b), some (pI m), some (pI t), some (pI k), some (pI i), x]) ∧ ∀ l, 0 ≤ l → l < i → ¬ (gGo T m t l ≠ -1 ∧ h 14 (gGo T m t l) = k ∧ ¬ (0 < gS T m (gGo T m t l) 1 ∧ gOf N m (5 + (gGo T m t l)) = 0))) (a := 0) (n := T 0) (by omega) ?_ ?_ _ ⟨⟨_, rfl⟩, fun l h1 h2 => by omega⟩
  · rintro i L hi hi2 ⟨⟨x, rfl⟩, hno⟩ hK
    have hg := gGo_lt hT hm hm2 ht ht2 hi (show i < 4 by omega)
    have hK2 : ∀ x, ¬ (gGo T m t i ≠ -1 ∧ h 14 (gGo T m t i) = k ∧ ¬ (0 < gS T m (gGo T m t i) 1 ∧ gOf N m (5 + (gGo T m t i)) = 0)) → Wp 2 3 [some (pR 9), some (pR p), some (pR b), some (pI m), some (pI t), some (pI k), some (pI (i + 1)), x] [] LY nx (h, r, s) Q := by
      intro x hx
      refine hK _ ⟨⟨x, rfl⟩, fun l h1 h2 => ?_⟩
      by_cases hli : l = i
      · rw [hli]; exact hx
      · exact hno l h1 (by omega)
    clear hK
    rw [sh_X0_isNextTo_3]
    by_cases h1 : gGo T m t i = -1
    · skip
      simp (disch := first | assumption | omega) only [st_X0_isNextTo, ↓if_pos, ↓if_neg, if_pos, if_neg, ↓reduceIte, true_and, and_true, false_and, and_false, true_or, or_true, false_or, or_false, w32_id, Kv, Kn, fup_s, fup_a, fup_k, fup_fup, Int.reduceAdd, Int.reduceSub, Int.reduceMul, Int.reduceNeg, D_target hP hT hR, ep0, h1]
      exact hK2 _ (fun z => z.1 h1)
    · by_cases h2 : h 14 (gGo T m t i) = k
      · by_cases h3 : (0 < gS T m (gGo T m t i) 1 ∧ gOf N m (5 + (gGo T m t i)) = 0)
        · skip
          simp (disch := first | assumption | omega) only [st_X0_isNextTo, ↓if_pos, ↓if_neg, if_pos, if_neg, ↓reduceIte, true_and, and_true, false_and, and_false, true_or, or_true, false_or, or_false, w32_id, Kv, Kn, fup_s, fup_a, fup_k, fup_fup, Int.reduceAdd, Int.reduceSub, Int.reduceMul, Int.reduceNeg, D_target hP hT hR, ep0, D_isTired hS0 hT hS, if_pos h3]
          exact hK2 _ (fun z => z.2.2 h3)
        · skip
          simp (disch := first | assumption | omega) only [st_X0_isNextTo, ↓if_pos, ↓if_neg, if_pos, if_neg, ↓reduceIte, true_and, and_true, false_and, and_false, true_or, or_true, false_or, or_false, w32_id, Kv, Kn, fup_s, fup_a, fup_k, fup_fup, Int.reduceAdd, Int.reduceSub, Int.reduceMul, Int.reduceNeg, D_target hP hT hR, ep0, D_isTired hS0 hT hS, if_neg h3]
          have hd1 : d = 1 := hde.mpr ⟨i, hi, hi2, h1, h2, h3⟩
          rw [hd1] at K
          exact K
      · skip
        simp (disch := first | assumption | omega) only [st_X0_isNextTo, ↓if_pos, ↓if_neg, if_pos, if_neg, ↓reduceIte, true_and, and_true, false_and, and_false, true_or, or_true, false_or, or_false, w32_id, Kv, Kn, fup_s, fup_a, fup_k, fup_fup, Int.reduceAdd, Int.reduceSub, Int.reduceMul, Int.reduceNeg, D_target hP hT hR, ep0]
        exact hK2 _ (fun z => h2 z.2.1)
  · rintro L ⟨⟨x, rfl⟩, hno⟩
    have hd0 : d = 0 := by
      rcases hd with z | z
      · exact z
      · obtain ⟨l, h1, h2, h3⟩ := hde.mp z
        exact absurd h3 (hno l h1 h2)
    rw [hd0] at K
    rw [sh_X0_isNextTo_3]
    simp (disch := first | assumption | omega) only [st_X0_isNextTo, ↓if_pos, ↓if_neg, if_pos, if_neg, ↓reduceIte, true_and, and_true, false_and, and_false, true_or, or_true, false_or, or_false, w32_id, Kv, Kn, fup_s, fup_a, fup_k, fup_fup, Int.reduceAdd, Int.reduceSub, Int.reduceMul, Int.reduceNeg, ep0]
    exact K
theorem pr_row {h : PF} {p a : Int} {T g : Int → Int} (ha : a < p ∨ p + 6 < a) (h1 : PlanRel h p T) : PlanRel (frow h a g) p T := by
  unfold PlanRel at *
  rw [frow_r (by omega : p ≠ a), frow_r (by omega : p + 1 ≠ a), frow_r (by omega : p + 2 ≠ a), frow_r (by omega : p + 3 ≠ a), frow_r (by omega : p + 4 ≠ a), frow_r (by omega : p + 5 ≠ a), frow_r (by omega : p + 6 ≠ a)]
  exact h1
theorem sr_row {h : PF} {b a : Int} {T N g : Int → Int} (ha : a < b ∨ b + 9 < a) (h1 : StRel h b T N) : StRel (frow h a g) b T N := by
  unfold StRel at *
  rw [frow_r (by omega : b ≠ a), frow_r (by omega : b + 1 ≠ a), frow_r (by omega : b + 2 ≠ a), frow_r (by omega : b + 3 ≠ a), frow_r (by omega : b + 4 ≠ a), frow_r (by omega : b + 5 ≠ a), frow_r (by omega : b + 6 ≠ a), frow_r (by omega : b + 7 ≠ a), frow_r (by omega : b + 8 ≠ a), frow_r (by omega : b + 9 ≠ a)]
  exact h1
