theorem gOf_s {N : Int → Int} {m w v : Int} : gOf (up1 N (64 + 11 * m + w) v) m w = v := up1_s
theorem gOf_k {N : Int → Int} {m w k v : Int} (h : 64 + 11 * m + w ≠ k) : gOf (up1 N k v) m w = gOf N m w := up1_k h
def gChest (N : Int → Int) (m c a : Int) : Int → Int := up1 (up1 (up1 N (64 + 11 * m + 1) (gOf N m 1 - c)) 1 (N 1 + c)) (189 + a) (w32 (N (189 + a) + c))
def gEnter0 (T N : Int → Int) (m l : Int) : Int → Int := up1 (up1 N (64 + 11 * m + 0) (gTo T N m l)) (64 + 11 * m + 3) (w32 (gOf N m 3 + 1))
def gEnters (T N : Int → Int) (m l : Int) : Int → Int := if 0 < gS T m (gTo T N m l) 1 then up1 (gEnter0 T N m l) (64 + 11 * m + (5 + gTo T N m l)) (gOf N m (5 + gTo T N m l) - 1) else gEnter0 T N m l
def gBalk (N : Int → Int) (m : Int) : Int → Int := gChest (up1 N (64 + 11 * m + 4) (w32 (gOf N m 4 + 1))) m (if 0 < gOf N m 1 then 1 else 0) 2
def gHears (T N : Int → Int) (m l : Int) : Int → Int := if 0 ≤ gTo T N m l ∧ ¬ (0 < gS T m (gTo T N m l) 1 ∧ gOf N m (5 + (gTo T N m l)) = 0) then gEnters T N m l else gBalk N m
def gSayF (T : Int → Int) (l b m : Int) (N : Int → Int) : Int → Int := if pand (pshr b m) 1 = 1 then gEnters T N m l else if gO T m 3 = 1 then gHears T N m l else N
def gSay0 (N : Int → Int) (l : Int) : Int → Int := up1 (up1 N (4 + N 3) l) 3 (N 3 + 1)
def gSays (T N : Int → Int) (l b : Int) : Int → Int := upto (gSayF T l b) (T 1).toNat (gSay0 N l)
def gFreshF (T : Int → Int) (m t : Int) (N : Int → Int) : Int → Int := up1 N (64 + 11 * m + (5 + t)) (gS T m t 1)
def gFresh (T N : Int → Int) (m : Int) : Int → Int := upto (gFreshF T m) 6 (up1 N (64 + 11 * m + 0) 0)
/-- a machine, as it is asked of -/
def MOk (T N : Int → Int) (m : Int) : Prop := (0 ≤ gOf N m 0 ∧ gOf N m 0 < gO T m 2) ∧ (0 ≤ gOf N m 1 ∧ gOf N m 1 ≤ 3996) ∧ (∀ t, 0 ≤ t → t < 6 → 0 ≤ gOf N m (5 + t) ∧ gOf N m (5 + t) ≤ 99) ∧ (0 ≤ N 1 ∧ N 1 ≤ 4000)
theorem S_intoChest {m c a : Int} {N : Int → Int} {nx : Nat} {h r : PF} {s : Int → Int} {Q : PO → PY → Nat → PC → Prop} (hW : WFr r) (hT : TWf (h 179)) (hm : 0 ≤ m) (hm2 : m < 4) (hc : 0 ≤ c) (hc2 : c ≤ 10000) (ha : 0 ≤ a) (ha2 : a < 6) (h1 : -10000 ≤ gOf N m 1) (h2 : gOf N m 1 ≤ 10000) (h3 : 0 ≤ N 1) (h4 : N 1 ≤ 10000) : Wp 171 0 [some (pR 178), some (pI m), some (pI c), some (pI a)] [] LY nx (frow h 180 N, r, s) Q ↔ Q (Sum.inl none) LY nx (frow h 180 (gChest N m c a), r, s) := by
  simp (disch := first | assumption | omega | (simp (disch := omega) only [frow_r, frow_s]; first | assumption | omega)) only [st_X8_intoChest, ↓if_pos, ↓if_neg, if_pos, if_neg, ↓reduceIte, true_and, and_true, false_and, and_false, true_or, or_true, false_or, or_false, w32_id, Kv, Kn, fup_s, fup_a, fup_k, fup_fup, Int.reduceAdd, Int.reduceSub, Int.reduceMul, Int.reduceNeg, frow_r, frow_s, frow_rk, frow_sk, fup_frow, gOf_s, gOf_k, up1_s, up1_k, S_of, S_sets]
  rfl
theorem S_enters {m l : Int} {N : Int → Int} {nx : Nat} {h r : PF} {s : Int → Int} {Q : PO → PY → Nat → PC → Prop} (hW : WFr r) (hT : TWf (h 179)) (hm : 0 ≤ m) (hm2 : m < h 179 1) (hM : MOk (h 179) N m) (hl : 0 ≤ l) (hl2 : l < 4) (hto : 0 ≤ gTo (h 179) N m l) : Wp 172 0 [some (pR 178), some (pI m), some (pI l), none] [] LY nx (frow h 180 N, r, s) Q ↔ Q (Sum.inl none) LY nx (frow h 180 (gEnters (h 179) N m l), r, s) := by
  have hT1 := hT.2.1
  have hTm := (hT.2.2.2.2.2 m hm hm2).1
  have hM0 := hM.1
  have hM1 := hM.2.1
  have hMc := hM.2.2.2
  have hg := gGo_lt (t := gOf N m 0) hT hm hm2 (by omega) (by omega) hl hl2
  have hs := hM.2.2.1 (gTo (h 179) N m l) hto (by unfold gTo; omega)
  unfold gEnters gEnter0
  unfold gTo at hto hs ⊢
  simp (disch := first | assumption | omega | (simp (disch := omega) only [frow_r, frow_s]; first | assumption | omega)) only [st_X8_enters, ↓if_pos, ↓if_neg, if_pos, if_neg, ↓reduceIte, true_and, and_true, false_and, and_false, true_or, or_true, false_or, or_false, w32_id, Kv, Kn, fup_s, fup_a, fup_k, fup_fup, Int.reduceAdd, Int.reduceSub, Int.reduceMul, Int.reduceNeg, frow_r, frow_s, frow_rk, frow_sk, fup_frow, gOf_s, gOf_k, up1_s, up1_k, S_of, S_sets, S_goOf, S_toldState]
  split
  · rw [if_neg (by omega)]
  · rw [if_pos (by omega)]
theorem S_canGo {m l : Int} {N : Int → Int} {nx : Nat} {h r : PF} {s : Int → Int} {Q : PO → PY → Nat → PC → Prop} (hW : WFr r) (hT : TWf (h 179)) (hm : 0 ≤ m) (hm2 : m < h 179 1) (hM : MOk (h 179) N m) (hl : 0 ≤ l) (hl2 : l < 4) : Wp 173 0 [some (pR 178), some (pI m), some (pI l), none] [] LY nx (frow h 180 N, r, s) Q ↔ if 0 ≤ gTo (h 179) N m l ∧ ¬ (0 < gS (h 179) m (gTo (h 179) N m l) 1 ∧ gOf N m (5 + (gTo (h 179) N m l)) = 0) then Q (Sum.inl (some (pI 1))) LY nx (frow h 180 N, r, s) else Q (Sum.inl (some (pI 0))) LY nx (frow h 180 N, r, s) := by
  have hT1 := hT.2.1
  have hTm := (hT.2.2.2.2.2 m hm hm2).1
  have hM0 := hM.1
  have hM1 := hM.2.1
  have hMc := hM.2.2.2
  have hg := gGo_lt (t := gOf N m 0) hT hm hm2 (by omega) (by omega) hl hl2
  unfold gTo
  by_cases hc : gGo (h 179) m (gOf N m 0) l < 0
  · rw [if_neg (by omega)]
    simp (disch := first | assumption | omega | (simp (disch := omega) only [frow_r, frow_s]; first | assumption | omega)) only [st_X8_canGo, ↓if_pos, ↓if_neg, if_pos, if_neg, ↓reduceIte, true_and, and_true, false_and, and_false, true_or, or_true, false_or, or_false, w32_id, Kv, Kn, fup_s, fup_a, fup_k, fup_fup, Int.reduceAdd, Int.reduceSub, Int.reduceMul, Int.reduceNeg, frow_r, frow_s, frow_rk, frow_sk, fup_frow, gOf_s, gOf_k, up1_s, up1_k, S_of, S_goOf, S_isTired]
  · skip
    simp (disch := first | assumption | omega | (simp (disch := omega) only [frow_r, frow_s]; first | assumption | omega)) only [st_X8_canGo, ↓if_pos, ↓if_neg, if_pos, if_neg, ↓reduceIte, true_and, and_true, false_and, and_false, true_or, or_true, false_or, or_false, w32_id, Kv, Kn, fup_s, fup_a, fup_k, fup_fup, Int.reduceAdd, Int.reduceSub, Int.reduceMul, Int.reduceNeg, frow_r, frow_s, frow_rk, frow_sk, fup_frow, gOf_s, gOf_k, up1_s, up1_k, S_of, S_goOf, S_isTired]
    (repeat' split) <;> first | rfl | (exfalso; omega)
theorem S_hears {m l : Int} {N : Int → Int} {nx : Nat} {h r : PF} {s : Int → Int} {Q : PO → PY → Nat → PC → Prop} (hW : WFr r) (hT : TWf (h 179)) (hm : 0 ≤ m) (hm2 : m < h 179 1) (hM : MOk (h 179) N m) (hl : 0 ≤ l) (hl2 : l < 4) : Wp 174 0 [some (pR 178), some (pI m), some (pI l)] [] LY nx (frow h 180 N, r, s) Q ↔ Q (Sum.inl none) LY nx (frow h 180 (gHears (h 179) N m l), r, s) := by
  have hT1 := hT.2.1
  have hTm := (hT.2.2.2.2.2 m hm hm2).1
  have hM0 := hM.1
  have hM1 := hM.2.1
  have hMc := hM.2.2.2
  unfold gHears
  by_cases hc : 0 ≤ gTo (h 179) N m l ∧ ¬ (0 < gS (h 179) m (gTo (h 179) N m l) 1 ∧ gOf N m (5 + (gTo (h 179) N m l)) = 0)
  · rw [if_pos hc]
    have hc0 := hc.1
    simp (disch := first | assumption | omega | (simp (disch := omega) only [frow_r, frow_s]; first | assumption | omega)) only [st_X8_hears, ↓if_pos, ↓if_neg, if_pos, if_neg, ↓reduceIte, true_and, and_true, false_and, and_false, true_or, or_true, false_or, or_false, w32_id, Kv, Kn, fup_s, fup_a, fup_k, fup_fup, Int.reduceAdd, Int.reduceSub, Int.reduceMul, Int.reduceNeg, frow_r, frow_s, frow_rk, frow_sk, fup_frow, gOf_s, gOf_k, up1_s, up1_k, S_canGo, S_enters]
  · rw [if_neg hc]
    unfold gBalk
    have e1 : ∀ v, gOf (up1 N (64 + 11 * m + 4) v) m 1 = gOf N m 1 := fun v => gOf_k (by omega)
    have e2 : ∀ v, up1 N (64 + 11 * m + 4) v 1 = N 1 := fun v => up1_k (by omega)
    simp (disch := first | assumption | omega | (simp (disch := omega) only [frow_r, frow_s]; first | assumption | omega)) only [st_X8_hears, ↓if_pos, ↓if_neg, if_pos, if_neg, ↓reduceIte, true_and, and_true, false_and, and_false, true_or, or_true, false_or, or_false, w32_id, Kv, Kn, fup_s, fup_a, fup_k, fup_fup, Int.reduceAdd, Int.reduceSub, Int.reduceMul, Int.reduceNeg, frow_r, frow_s, frow_rk, frow_sk, fup_frow, gOf_s, gOf_k, up1_s, up1_k, S_canGo, S_of, S_sets, S_intoChest]
    split
    all_goals
      first | rw [if_neg (by omega)] | rw [if_pos (by omega)]
      refine Iff.trans (S_intoChest hW hT hm (by omega) (by omega) (by omega) (by omega) (by omega) (by rw [e1]; omega) (by rw [e1]; omega) (by rw [e2]; omega) (by rw [e2]; omega)) ?_
      simp (disch := first | assumption | omega | (simp (disch := omega) only [frow_r, frow_s]; first | assumption | omega)) only [st_X8_hears, ↓if_pos, ↓if_neg, if_pos, if_neg, ↓reduceIte, true_and, and_true, false_and, and_false, true_or, or_true, false_or, or_false, w32_id, Kv, Kn, fup_s, fup_a, fup_k, fup_fup, Int.reduceAdd, Int.reduceSub, Int.reduceMul, Int.reduceNeg, frow_r, frow_s, frow_rk, frow_sk, fup_frow, gOf_s, gOf_k, up1_s, up1_k]
theorem S_freshens {m : Int} {N : Int → Int} {nx : Nat} {h r : PF} {s : Int → Int} {Q : PO → PY → Nat → PC → Prop} (hW : WFr r) (hT : TWf (h 179)) (hm : 0 ≤ m) (hm2 : m < 4) : Wp 159 0 [some (pR 178), some (pI m), none] [] LY nx (frow h 180 N, r, s) Q ↔ Q (Sum.inl none) LY nx (frow h 180 (gFresh (h 179) N m), r, s) := by
  refine Wp.eq ?_
  simp (disch := first | assumption | omega | (simp (disch := omega) only [frow_r, frow_s]; first | assumption | omega)) only [st_X8_freshens, ↓if_pos, ↓if_neg, if_pos, if_neg, ↓reduceIte, true_and, and_true, false_and, and_false, true_or, or_true, false_or, or_false, w32_id, Kv, Kn, fup_s, fup_a, fup_k, fup_fup, Int.reduceAdd, Int.reduceSub, Int.reduceMul, Int.reduceNeg, frow_r, frow_s, frow_rk, frow_sk, fup_frow, gOf_s, gOf_k, up1_s, up1_k, S_sets]
  refine loopW (Inv := fun i L H R => L = [some (pR 178), some (pI m), some (pI i)] ∧ H = frow h 180 (upto (gFreshF (h 179) m) i.toNat (up1 N (64 + 11 * m + 0) 0)) ∧ R = r) (a := 0) (n := 6) (by omega) ?_ ?_ _ _ _ ⟨rfl, rfl, rfl⟩
  · rintro i L H R hi hi2 ⟨rfl, rfl, rfl⟩ hK
    rw [sh_X8_freshens_9]
    simp (disch := first | assumption | omega | (simp (disch := omega) only [frow_r, frow_s]; first | assumption | omega)) only [st_X8_freshens, ↓if_pos, ↓if_neg, if_pos, if_neg, ↓reduceIte, true_and, and_true, false_and, and_false, true_or, or_true, false_or, or_false, w32_id, Kv, Kn, fup_s, fup_a, fup_k, fup_fup, Int.reduceAdd, Int.reduceSub, Int.reduceMul, Int.reduceNeg, frow_r, frow_s, frow_rk, frow_sk, fup_frow, gOf_s, gOf_k, up1_s, up1_k, S_sets, S_toldState]
    refine hK _ _ _ ⟨rfl, ?_, rfl⟩
    rw [upto_s hi]
    rfl
  · rintro L H R ⟨rfl, rfl, rfl⟩
    rw [sh_X8_freshens_9]
    simp (disch := first | assumption | omega | (simp (disch := omega) only [frow_r, frow_s]; first | assumption | omega)) only [st_X8_freshens, ↓if_pos, ↓if_neg, if_pos, if_neg, ↓reduceIte, true_and, and_true, false_and, and_false, true_or, or_true, false_or, or_false, w32_id, Kv, Kn, fup_s, fup_a, fup_k, fup_fup, Int.reduceAdd, Int.reduceSub, Int.reduceMul, Int.reduceNeg, frow_r, frow_s, frow_rk, frow_sk, fup_frow, gOf_s, gOf_k, up1_s, up1_k]
    all_goals first | rfl | exact ⟨rfl, rfl, rfl, rfl⟩
