/-! THE REFERENCE'S QUESTIONS, over its two rows: T what is told, N what is now -/
def upto {α : Type} (f : Int → α → α) : Nat → α → α
  | 0, a => a
  | n + 1, a => f n (upto f n a)
theorem upto_s {α : Type} {f : Int → α → α} {i : Int} {a : α} (hi : 0 ≤ i) : upto f (i + 1).toNat a = f i (upto f i.toNat a) := by
  rw [show (i + 1).toNat = i.toNat + 1 from by omega]
  show f (i.toNat : Int) _ = _
  rw [Int.toNat_of_nonneg hi]
theorem loopL {mi hd : Nat} {lay : PY} {nx : Nat} {h r : PF} {s : Int → Int} {Q : PO → PY → Nat → PC → Prop} (Inv : Int → PL → Prop) {a n : Int} (han : a ≤ n) (step : ∀ i L, a ≤ i → i < n → Inv i L → (∀ L', Inv (i + 1) L' → Wp mi hd L' [] lay nx (h, r, s) Q) → Wp mi hd L [] lay nx (h, r, s) Q) (exit : ∀ L, Inv n L → Wp mi hd L [] lay nx (h, r, s) Q) (L : PL) (h0 : Inv a L) : Wp mi hd L [] lay nx (h, r, s) Q := by
  have key : ∀ (m : Nat) (i : Int), i + m = n → a ≤ i → ∀ L, Inv i L → Wp mi hd L [] lay nx (h, r, s) Q := by
    intro m
    induction m with
    | zero => intro i hi _ L h; exact exit L (by rw [show n = i from by omega]; exact h)
    | succ m ih => intro i hi ha L h; exact step i L ha (by omega) h (fun L' h' => ih (i + 1) (by omega) (by omega) L' h')
  exact key (n - a).toNat a (by omega) (by omega) L h0
def gO (T : Int → Int) (m w : Int) : Int := T (4 + 40 * m + w)
def gS (T : Int → Int) (m t w : Int) : Int := gO T m (4 + 6 * t + w)
def gGo (T : Int → Int) (m t l : Int) : Int := gS T m t (2 + l) - 1
def gOf (N : Int → Int) (m w : Int) : Int := N (64 + 11 * m + w)
/-- what is told is in its bounds -/
def TWf (T : Int → Int) : Prop := (1 ≤ T 0 ∧ T 0 ≤ 4) ∧ (0 ≤ T 1 ∧ T 1 ≤ 4) ∧ (1 ≤ T 2 ∧ T 2 ≤ 20) ∧ (0 ≤ T 3 ∧ T 3 ≤ 99) ∧ (∀ k, 0 ≤ k → k < 164 → 0 ≤ T k ∧ T k ≤ 999) ∧ ∀ m, 0 ≤ m → m < T 1 → (1 ≤ gO T m 1 ∧ gO T m 1 ≤ 9 ∧ 1 ≤ gO T m 2 ∧ gO T m 2 ≤ 6 ∧ gO T m 3 ≤ 1) ∧ ∀ t, 0 ≤ t → t < 6 → (gS T m t 0 ≤ 1 ∧ gS T m t 1 ≤ 99) ∧ ∀ l, 0 ≤ l → l < 4 → gS T m t (2 + l) ≤ gO T m 2
/-- what is now is in its bounds -/
def NWf (T N : Int → Int) : Prop := (0 ≤ N 3 ∧ N 3 ≤ 60) ∧ (∀ k, 0 ≤ k → k < N 3 → 0 ≤ N (4 + k) ∧ N (4 + k) < T 0) ∧ (0 ≤ N 2 ∧ (0 < T 1 → N 2 < T 1)) ∧ (0 ≤ N 108 ∧ N 108 ≤ 20) ∧ (∀ m, 0 ≤ m → m < T 1 → (0 ≤ gOf N m 0 ∧ gOf N m 0 < gO T m 2) ∧ 0 ≤ gOf N m 1 ∧ (1 ≤ gOf N m 2 ∧ gOf N m 2 ≤ 9) ∧ ∀ t, 0 ≤ t → t < 6 → 0 ≤ gOf N m (5 + t) ∧ gOf N m (5 + t) ≤ 99) ∧ 0 ≤ N 1 ∧ upto (fun m a => a + gOf N m 1) (T 1).toNat (N 1) ≤ 3996
theorem w32_go {T : Int → Int} {m t l : Int} (hT : TWf T) (hm : 0 ≤ m) (hm2 : m < 4) (ht : 0 ≤ t) (ht2 : t < 6) (hl : 0 ≤ l) (hl2 : l < 4) : w32 (gS T m t (2 + l) - 1) = gGo T m t l := by
  have := hT.2.2.2.2.1 (4 + 40 * m + (4 + 6 * t + (2 + l))) (by omega) (by omega)
  exact w32_id (by unfold gS gO; omega) (by unfold gS gO; omega)
theorem gGo_lt {T : Int → Int} {m t l : Int} (hT : TWf T) (hm : 0 ≤ m) (hm2 : m < T 1) (ht : 0 ≤ t) (ht2 : t < 6) (hl : 0 ≤ l) (hl2 : l < 4) : -1 ≤ gGo T m t l ∧ gGo T m t l < gO T m 2 := by
  have h4 := hT.2.1
  have h1 := hT.2.2.2.2.1 (4 + 40 * m + (4 + 6 * t + (2 + l))) (by omega) (by omega)
  have h2 := ((hT.2.2.2.2.2 m hm hm2).2 t ht ht2).2 l hl hl2
  unfold gGo gS gO at *
  omega
theorem S_toldOf {m w : Int} {nx : Nat} {h r : PF} {s : Int → Int} {Q : PO → PY → Nat → PC → Prop} (hW : WFr r) (hm : 0 ≤ m) (hm2 : m < 4) (hw : 0 ≤ w) (hw2 : w < 40) : Wp 153 0 [some (pR 178), some (pI m), some (pI w)] [] LY nx (h, r, s) Q ↔ Q (Sum.inl (some (pI (gO (h 179) m w)))) LY nx (h, r, s) := by
  simp (disch := first | assumption | omega) only [st_X8_toldOf, ↓if_pos, ↓if_neg, if_pos, if_neg, ↓reduceIte, true_and, and_true, false_and, and_false, true_or, or_true, false_or, or_false, w32_id, Kv, Kn, fup_s, fup_a, fup_k, fup_fup, Int.reduceAdd, Int.reduceSub, Int.reduceMul, Int.reduceNeg]
  rfl
theorem S_toldState {m t w : Int} {nx : Nat} {h r : PF} {s : Int → Int} {Q : PO → PY → Nat → PC → Prop} (hW : WFr r) (hm : 0 ≤ m) (hm2 : m < 4) (ht : 0 ≤ t) (ht2 : t < 6) (hw : 0 ≤ w) (hw2 : w < 6) : Wp 154 0 [some (pR 178), some (pI m), some (pI t), some (pI w)] [] LY nx (h, r, s) Q ↔ Q (Sum.inl (some (pI (gS (h 179) m t w)))) LY nx (h, r, s) := by
  simp (disch := first | assumption | omega) only [st_X8_toldState, ↓if_pos, ↓if_neg, if_pos, if_neg, ↓reduceIte, true_and, and_true, false_and, and_false, true_or, or_true, false_or, or_false, w32_id, Kv, Kn, fup_s, fup_a, fup_k, fup_fup, Int.reduceAdd, Int.reduceSub, Int.reduceMul, Int.reduceNeg, S_toldOf]
  rfl
theorem S_isEnd {m t : Int} {nx : Nat} {h r : PF} {s : Int → Int} {Q : PO → PY → Nat → PC → Prop} (hW : WFr r) (hm : 0 ≤ m) (hm2 : m < 4) (ht : 0 ≤ t) (ht2 : t < 6) : Wp 155 0 [some (pR 178), some (pI m), some (pI t)] [] LY nx (h, r, s) Q ↔ if gS (h 179) m t 0 = 1 then Q (Sum.inl (some (pI 1))) LY nx (h, r, s) else Q (Sum.inl (some (pI 0))) LY nx (h, r, s) := by
  simp (disch := first | assumption | omega) only [st_X8_isEnd, ↓if_pos, ↓if_neg, if_pos, if_neg, ↓reduceIte, true_and, and_true, false_and, and_false, true_or, or_true, false_or, or_false, w32_id, Kv, Kn, fup_s, fup_a, fup_k, fup_fup, Int.reduceAdd, Int.reduceSub, Int.reduceMul, Int.reduceNeg, S_toldState]
  all_goals ((repeat' split) <;> first | rfl | (exfalso; omega) | (trace_state; done))
theorem S_goOf {m t l : Int} {nx : Nat} {h r : PF} {s : Int → Int} {Q : PO → PY → Nat → PC → Prop} (hW : WFr r) (hT : TWf (h 179)) (hm : 0 ≤ m) (hm2 : m < 4) (ht : 0 ≤ t) (ht2 : t < 6) (hl : 0 ≤ l) (hl2 : l < 4) : Wp 156 0 [some (pR 178), some (pI m), some (pI t), some (pI l)] [] LY nx (h, r, s) Q ↔ Q (Sum.inl (some (pI (gGo (h 179) m t l)))) LY nx (h, r, s) := by
  simp (disch := first | assumption | omega) only [st_X8_goOf, ↓if_pos, ↓if_neg, if_pos, if_neg, ↓reduceIte, true_and, and_true, false_and, and_false, true_or, or_true, false_or, or_false, w32_id, Kv, Kn, fup_s, fup_a, fup_k, fup_fup, Int.reduceAdd, Int.reduceSub, Int.reduceMul, Int.reduceNeg, S_toldState, w32_go]
theorem S_of {m w : Int} {nx : Nat} {h r : PF} {s : Int → Int} {Q : PO → PY → Nat → PC → Prop} (hW : WFr r) (hm : 0 ≤ m) (hm2 : m < 4) (hw : 0 ≤ w) (hw2 : w < 11) : Wp 157 0 [some (pR 178), some (pI m), some (pI w)] [] LY nx (h, r, s) Q ↔ Q (Sum.inl (some (pI (gOf (h 180) m w)))) LY nx (h, r, s) := by
  simp (disch := first | assumption | omega) only [st_X8_of, ↓if_pos, ↓if_neg, if_pos, if_neg, ↓reduceIte, true_and, and_true, false_and, and_false, true_or, or_true, false_or, or_false, w32_id, Kv, Kn, fup_s, fup_a, fup_k, fup_fup, Int.reduceAdd, Int.reduceSub, Int.reduceMul, Int.reduceNeg]
  rfl
theorem S_sets {m w v : Int} {nx : Nat} {h r : PF} {s : Int → Int} {Q : PO → PY → Nat → PC → Prop} (hW : WFr r) (hm : 0 ≤ m) (hm2 : m < 4) (hw : 0 ≤ w) (hw2 : w < 11) : Wp 158 0 [some (pR 178), some (pI m), some (pI w), some (pI v)] [] LY nx (h, r, s) Q ↔ Q (Sum.inl none) LY nx (fup h 180 (64 + 11 * m + w) v, r, s) := by
  simp (disch := first | assumption | omega) only [st_X8_sets, ↓if_pos, ↓if_neg, if_pos, if_neg, ↓reduceIte, true_and, and_true, false_and, and_false, true_or, or_true, false_or, or_false, w32_id, Kv, Kn, fup_s, fup_a, fup_k, fup_fup, Int.reduceAdd, Int.reduceSub, Int.reduceMul, Int.reduceNeg]
theorem S_isTired {m t : Int} {nx : Nat} {h r : PF} {s : Int → Int} {Q : PO → PY → Nat → PC → Prop} (hW : WFr r) (hm : 0 ≤ m) (hm2 : m < 4) (ht : 0 ≤ t) (ht2 : t < 6) : Wp 160 0 [some (pR 178), some (pI m), some (pI t)] [] LY nx (h, r, s) Q ↔ if (0 < gS (h 179) m t 1 ∧ gOf (h 180) m (5 + t) = 0) then Q (Sum.inl (some (pI 1))) LY nx (h, r, s) else Q (Sum.inl (some (pI 0))) LY nx (h, r, s) := by
  simp (disch := first | assumption | omega) only [st_X8_isTired, ↓if_pos, ↓if_neg, if_pos, if_neg, ↓reduceIte, true_and, and_true, false_and, and_false, true_or, or_true, false_or, or_false, w32_id, Kv, Kn, fup_s, fup_a, fup_k, fup_fup, Int.reduceAdd, Int.reduceSub, Int.reduceMul, Int.reduceNeg, S_toldState, S_of]
  all_goals ((repeat' split) <;> first | rfl | (exfalso; omega) | (trace_state; done))
def gLeadsF (T N : Int → Int) (m t set l d : Int) : Int := if d ≠ 0 then 1 else if 0 ≤ gGo T m t l ∧ ¬ (0 < gS T m (gGo T m t l) 1 ∧ gOf N m (5 + (gGo T m t l)) = 0) ∧ pand (pshr set (gGo T m t l)) 1 = 1 then 1 else 0
def gLeads (T N : Int → Int) (m t set : Int) : Int := upto (gLeadsF T N m t set) (T 0).toNat 0
theorem gLeadsF01 {T N : Int → Int} {m t set l d : Int} : gLeadsF T N m t set l d = 0 ∨ gLeadsF T N m t set l d = 1 := by
  unfold gLeadsF
  (repeat' split) <;> omega
theorem S_leadsTo {m t set : Int} {nx : Nat} {h r : PF} {s : Int → Int} {Q : PO → PY → Nat → PC → Prop} (hW : WFr r) (hT : TWf (h 179)) (hm : 0 ≤ m) (hm2 : m < h 179 1) (ht : 0 ≤ t) (ht2 : t < 6) : Wp 162 0 [some (pR 178), some (pI m), some (pI t), some (pI set), none, none, none] [] LY nx (h, r, s) Q ↔ Q (Sum.inl (some (pI (gLeads (h 179) (h 180) m t set)))) LY nx (h, r, s) := by
  refine Wp.eq ?_
  have hT0 := hT.1
  have hT1 := hT.2.1
  simp (disch := first | assumption | omega) only [st_X8_leadsTo, ↓if_pos, ↓if_neg, if_pos, if_neg, ↓reduceIte, true_and, and_true, false_and, and_false, true_or, or_true, false_or, or_false, w32_id, Kv, Kn, fup_s, fup_a, fup_k, fup_fup, Int.reduceAdd, Int.reduceSub, Int.reduceMul, Int.reduceNeg]
  refine loopL (Inv := fun i L => ∃ x d, L = [some (pR 178), some (pI m), some (pI t), some (pI set), some (pI d), some (pI i), x] ∧ d = upto (gLeadsF (h 179) (h 180) m t set) i.toNat 0 ∧ (d = 0 ∨ d = 1)) (a := 0) (n := h 179 0) (by omega) ?_ ?_ _ ⟨_, 0, rfl, rfl, Or.inl rfl⟩
  · rintro i L hi hi2 ⟨x, d, rfl, hd, hd01⟩ hK
    have hg := gGo_lt hT hm hm2 ht ht2 hi (show i < 4 by omega)
    have h6 := ((hT.2.2.2.2.2 m hm hm2).1).2.2.2.1
    have hK2 : ∀ x v, v = gLeadsF (h 179) (h 180) m t set i d → Wp 162 6 [some (pR 178), some (pI m), some (pI t), some (pI set), some (pI v), some (pI (i + 1)), x] [] LY nx (h, r, s) (fun o1 l1 n1 h1 => o1 = Sum.inl (some (pI (gLeads (h 179) (h 180) m t set))) ∧ l1 = LY ∧ n1 = nx ∧ h1 = (h, r, s)) := by
      intro x v hv
      refine hK _ ⟨x, v, rfl, ?_, ?_⟩
      · rw [upto_s hi, ← hd]; exact hv
      · rw [hv]; exact gLeadsF01
    clear hK
    rw [sh_X8_leadsTo_6]
    by_cases hc : d = 0
    · by_cases hc2 : 0 ≤ gGo (h 179) m t i
      · skip
        simp (disch := first | assumption | omega) only [st_X8_leadsTo, ↓if_pos, ↓if_neg, if_pos, if_neg, ↓reduceIte, true_and, and_true, false_and, and_false, true_or, or_true, false_or, or_false, w32_id, Kv, Kn, fup_s, fup_a, fup_k, fup_fup, Int.reduceAdd, Int.reduceSub, Int.reduceMul, Int.reduceNeg, S_goOf, S_isTired]
        by_cases hti : (0 < gS (h 179) m (gGo (h 179) m t i) 1 ∧ gOf (h 180) m (5 + gGo (h 179) m t i) = 0)
        · rw [if_pos hti]
          refine hK2 _ _ ?_
          unfold gLeadsF
          rw [if_neg (by omega), if_neg (fun z => z.2.1 hti)]
        · rw [if_neg hti]
          split
          · rename_i hz
            refine hK2 _ _ ?_
            unfold gLeadsF
            rw [if_neg (by omega), if_neg (fun z => hz z.2.2)]
          · rename_i hz
            refine hK2 _ _ ?_
            unfold gLeadsF
            rw [if_neg (by omega), if_pos ⟨hc2, hti, by omega⟩]
      · skip
        simp (disch := first | assumption | omega) only [st_X8_leadsTo, ↓if_pos, ↓if_neg, if_pos, if_neg, ↓reduceIte, true_and, and_true, false_and, and_false, true_or, or_true, false_or, or_false, w32_id, Kv, Kn, fup_s, fup_a, fup_k, fup_fup, Int.reduceAdd, Int.reduceSub, Int.reduceMul, Int.reduceNeg, S_goOf, S_isTired]
        refine hK2 _ _ ?_
        unfold gLeadsF
        rw [if_neg (by omega), if_neg (by omega)]
    · skip
      simp (disch := first | assumption | omega) only [st_X8_leadsTo, ↓if_pos, ↓if_neg, if_pos, if_neg, ↓reduceIte, true_and, and_true, false_and, and_false, true_or, or_true, false_or, or_false, w32_id, Kv, Kn, fup_s, fup_a, fup_k, fup_fup, Int.reduceAdd, Int.reduceSub, Int.reduceMul, Int.reduceNeg, S_goOf, S_isTired]
      refine hK2 _ _ ?_
      unfold gLeadsF
      rw [if_pos hc]
  · rintro L ⟨x, d, rfl, hd, hd01⟩
    rw [sh_X8_leadsTo_6]
    simp (disch := first | assumption | omega) only [st_X8_leadsTo, ↓if_pos, ↓if_neg, if_pos, if_neg, ↓reduceIte, true_and, and_true, false_and, and_false, true_or, or_true, false_or, or_false, w32_id, Kv, Kn, fup_s, fup_a, fup_k, fup_fup, Int.reduceAdd, Int.reduceSub, Int.reduceMul, Int.reduceNeg]
    all_goals (rw [hd]; rfl)
def gEnds (T : Int → Int) (m : Int) : Int := upto (fun k f => por f (if gS T m k 0 = 1 then pshl 1 k else 0)) (gO T m 2).toNat 0
def gMore (T N : Int → Int) (m set : Int) : Int := upto (fun k f => por f (if gLeads T N m k set ≠ 0 then pshl 1 k else 0)) (gO T m 2).toNat set
def gFound (T N : Int → Int) (m : Int) : Nat → Int
  | 0 => gEnds T m
  | k + 1 => gMore T N m (gFound T N m k)
def gDistF (T N : Int → Int) (m t : Int) : Nat → Nat → Int
  | 0, _ => -1
  | n + 1, far => if pand (pshr (gFound T N m far) t) 1 = 1 then far else gDistF T N m t n (far + 1)
def gDist (T N : Int → Int) (m t : Int) : Int := gDistF T N m t 6 0
theorem gDistF_rng {T N : Int → Int} {m t : Int} : ∀ (n far : Nat), -1 ≤ gDistF T N m t n far ∧ gDistF T N m t n far < n + far
  | 0, far => by unfold gDistF; omega
  | n + 1, far => by
    unfold gDistF
    have := gDistF_rng (T := T) (N := N) (m := m) (t := t) n (far + 1)
    split <;> omega
theorem gDist_rng {T N : Int → Int} {m t : Int} : -1 ≤ gDist T N m t ∧ gDist T N m t < 6 := by
  have := gDistF_rng (T := T) (N := N) (m := m) (t := t) 6 0
  unfold gDist
  omega
theorem S_distanceOf {m t : Int} {nx : Nat} {h r : PF} {s : Int → Int} {Q : PO → PY → Nat → PC → Prop} (hW : WFr r) (hT : TWf (h 179)) (hm : 0 ≤ m) (hm2 : m < h 179 1) (ht : 0 ≤ t) (ht2 : t < 6) : Wp 161 0 [some (pR 178), some (pI m), some (pI t), none, none, none, none] [] LY nx (h, r, s) Q ↔ Q (Sum.inl (some (pI (gDist (h 179) (h 180) m t)))) LY nx (h, r, s) := by
  refine Wp.eq ?_
  have hT0 := hT.1
  have hT1 := hT.2.1
  have hTm := (hT.2.2.2.2.2 m hm hm2).1
  simp (disch := first | assumption | omega) only [st_X8_distanceOf_0, st_X8_distanceOf_1, ↓if_pos, ↓if_neg, if_pos, if_neg, ↓reduceIte, true_and, and_true, false_and, and_false, true_or, or_true, false_or, or_false, w32_id, Kv, Kn, fup_s, fup_a, fup_k, fup_fup, Int.reduceAdd, Int.reduceSub, Int.reduceMul, Int.reduceNeg]
  refine loopL (Inv := fun i L => L = [some (pR 178), some (pI m), some (pI t), some (pI (upto (fun k f => por f (if gS (h 179) m k 0 = 1 then pshl 1 k else 0)) i.toNat 0)), some (pI i), none, none]) (a := 0) (n := gO (h 179) m 2) (by omega) ?_ ?_ _ rfl
  · rintro i L hi hi2 rfl hK
    rw [sh_X8_distanceOf_5]
    simp (disch := first | assumption | omega) only [st_X8_distanceOf_0, st_X8_distanceOf_1, ↓if_pos, ↓if_neg, if_pos, if_neg, ↓reduceIte, true_and, and_true, false_and, and_false, true_or, or_true, false_or, or_false, w32_id, Kv, Kn, fup_s, fup_a, fup_k, fup_fup, Int.reduceAdd, Int.reduceSub, Int.reduceMul, Int.reduceNeg, S_toldOf, S_isEnd]
    split <;> (refine hK _ ?_; rw [upto_s hi]; simp only [*, if_true, if_false])
  · rintro L rfl
    rw [sh_X8_distanceOf_5]
    simp (disch := first | assumption | omega) only [st_X8_distanceOf_0, st_X8_distanceOf_1, ↓if_pos, ↓if_neg, if_pos, if_neg, ↓reduceIte, true_and, and_true, false_and, and_false, true_or, or_true, false_or, or_false, w32_id, Kv, Kn, fup_s, fup_a, fup_k, fup_fup, Int.reduceAdd, Int.reduceSub, Int.reduceMul, Int.reduceNeg, S_toldOf, S_isEnd]
    refine loopL (Inv := fun i L => ∃ x y, L = [some (pR 178), some (pI m), some (pI t), some (pI (gFound (h 179) (h 180) m i.toNat)), some (pI i), x, y] ∧ gDist (h 179) (h 180) m t = gDistF (h 179) (h 180) m t (6 - i).toNat i.toNat) (a := 0) (n := 6) (by omega) ?_ ?_ _ ⟨_, _, rfl, rfl⟩
    · rintro i L hi hi2 ⟨x, y, rfl, hd⟩ hK
      rw [show (6 - i).toNat = (6 - (i + 1)).toNat + 1 from by omega, gDistF] at hd
      rw [sh_X8_distanceOf_46]
      by_cases hc : pand (pshr (gFound (h 179) (h 180) m i.toNat) t) 1 = 1
      · rw [if_pos hc] at hd
        simp (disch := first | assumption | omega) only [st_X8_distanceOf_0, st_X8_distanceOf_1, ↓if_pos, ↓if_neg, if_pos, if_neg, ↓reduceIte, true_and, and_true, false_and, and_false, true_or, or_true, false_or, or_false, w32_id, Kv, Kn, fup_s, fup_a, fup_k, fup_fup, Int.reduceAdd, Int.reduceSub, Int.reduceMul, Int.reduceNeg]
        all_goals rw [hd, Int.toNat_of_nonneg hi]
      · rw [if_neg hc] at hd
        simp (disch := first | assumption | omega) only [st_X8_distanceOf_0, st_X8_distanceOf_1, ↓if_pos, ↓if_neg, if_pos, if_neg, ↓reduceIte, true_and, and_true, false_and, and_false, true_or, or_true, false_or, or_false, w32_id, Kv, Kn, fup_s, fup_a, fup_k, fup_fup, Int.reduceAdd, Int.reduceSub, Int.reduceMul, Int.reduceNeg]
        refine loopL (Inv := fun k L => L = [some (pR 178), some (pI m), some (pI t), some (pI (gFound (h 179) (h 180) m i.toNat)), some (pI i), some (pI (upto (fun k f => por f (if gLeads (h 179) (h 180) m k (gFound (h 179) (h 180) m i.toNat) ≠ 0 then pshl 1 k else 0)) k.toNat (gFound (h 179) (h 180) m i.toNat))), some (pI k)]) (a := 0) (n := gO (h 179) m 2) (by omega) ?_ ?_ _ rfl
        · rintro k L hk hk2 rfl hK2
          rw [sh_X8_distanceOf_71]
          simp (disch := first | assumption | omega) only [st_X8_distanceOf_0, st_X8_distanceOf_1, ↓if_pos, ↓if_neg, if_pos, if_neg, ↓reduceIte, true_and, and_true, false_and, and_false, true_or, or_true, false_or, or_false, w32_id, Kv, Kn, fup_s, fup_a, fup_k, fup_fup, Int.reduceAdd, Int.reduceSub, Int.reduceMul, Int.reduceNeg, S_toldOf, S_leadsTo]
          split <;> (refine hK2 _ ?_; rw [upto_s hk]; simp only [*, if_true, if_false, ne_eq, not_true_eq_false, not_false_eq_true])
        · rintro L rfl
          rw [sh_X8_distanceOf_71]
          simp (disch := first | assumption | omega) only [st_X8_distanceOf_0, st_X8_distanceOf_1, ↓if_pos, ↓if_neg, if_pos, if_neg, ↓reduceIte, true_and, and_true, false_and, and_false, true_or, or_true, false_or, or_false, w32_id, Kv, Kn, fup_s, fup_a, fup_k, fup_fup, Int.reduceAdd, Int.reduceSub, Int.reduceMul, Int.reduceNeg, S_toldOf]
          have hK3 : ∀ x y v, v = gFound (h 179) (h 180) m (i + 1).toNat → Wp 161 46 [some (pR 178), some (pI m), some (pI t), some (pI v), some (pI (i + 1)), x, y] [] LY nx (h, r, s) (fun o1 l1 n1 h1 => o1 = Sum.inl (some (pI (gDist (h 179) (h 180) m t))) ∧ l1 = LY ∧ n1 = nx ∧ h1 = (h, r, s)) := fun x y v hv => hK _ ⟨x, y, by rw [hv], by rw [hd, show (i + 1).toNat = i.toNat + 1 from by omega]⟩
          exact hK3 _ _ _ (by rw [show (i + 1).toNat = i.toNat + 1 from by omega]; rfl)
    · rintro L ⟨x, y, rfl, hd⟩
      rw [sh_X8_distanceOf_46]
      simp (disch := first | assumption | omega) only [st_X8_distanceOf_0, st_X8_distanceOf_1, ↓if_pos, ↓if_neg, if_pos, if_neg, ↓reduceIte, true_and, and_true, false_and, and_false, true_or, or_true, false_or, or_false, w32_id, Kv, Kn, fup_s, fup_a, fup_k, fup_fup, Int.reduceAdd, Int.reduceSub, Int.reduceMul, Int.reduceNeg]
      all_goals (rw [hd]; rfl)
