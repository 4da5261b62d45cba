/-! CHANGES ARE KEPT: the class's ring, the reference's row of rows -/
theorem bef_r {r : PF} (hW : WFr r) {x : Int} (h1 : 0 ≤ x) (h2 : x < 10) : r 22 x = 24 + 10 * x := by
  have : x = 0 ∨ x = 1 ∨ x = 2 ∨ x = 3 ∨ x = 4 ∨ x = 5 ∨ x = 6 ∨ x = 7 ∨ x = 8 ∨ x = 9 := by omega
  rcases this with rfl | rfl | rfl | rfl | rfl | rfl | rfl | rfl | rfl | rfl
  all_goals exact hW (_, _, _) (by decide +kernel)
theorem slt_r {r : PF} (hW : WFr r) {x : Int} (h1 : 0 ≤ x) (h2 : x < 2) : r 23 x = 124 + 10 * x := by
  have : x = 0 ∨ x = 1 := by omega
  rcases this with rfl | rfl
  all_goals exact hW (_, _, _) (by decide +kernel)
/-- the class's keep -/
def kepC (h : PF) : PF := fup (fup (cpS h (24 + 10 * h 21 1) 144) 21 1 (if h 21 1 + 1 < 10 then h 21 1 + 1 else 0)) 21 0 (if h 21 0 < 10 then h 21 0 + 1 else 10)

theorem C_keep {nx : Nat} {h r : PF} {s : Int → Int} {Q : PO → PY → Nat → PC → Prop} (hW : WFr r) (he : 0 ≤ h 21 1 ∧ h 21 1 < 10) (hu : 0 ≤ h 21 0 ∧ h 21 0 ≤ 10) : Wp 13 0 [some (pR 21), some (pR 144)] [] LY nx (h, r, s) Q ↔ Q (Sum.inl none) LY nx (kepC h, r, s) := by
  have e22 := bef_r hW he.1 he.2
  have hSe : StOk r (24 + 10 * h 21 1) := stok_row hW he.1 (by omega)
  have hSk := hSe.1.2
  have hS144 := stok_144 hW
  have c0 : cpS h (24 + 10 * h 21 1) 144 21 = h 21 := cpS_r (by omega)
  unfold kepC
  by_cases h9 : h 21 1 + 1 < 10
  · by_cases h10 : h 21 0 < 10
    · rw [if_pos h9, if_pos h10]
      simp (disch := first | assumption | omega) only [st_X1_keep, ↓if_pos, ↓if_neg, if_pos, if_neg, ↓reduceIte, true_and, and_true, false_and, and_false, true_or, or_true, false_or, or_false, w32_id, Kv, Kn, fup_s, fup_a, fup_k, fup_fup, Int.reduceAdd, Int.reduceSub, Int.reduceMul, Int.reduceNeg, S_copyFrom, e22, c0]
    · rw [if_pos h9, if_neg h10]
      simp (disch := first | assumption | omega) only [st_X1_keep, ↓if_pos, ↓if_neg, if_pos, if_neg, ↓reduceIte, true_and, and_true, false_and, and_false, true_or, or_true, false_or, or_false, w32_id, Kv, Kn, fup_s, fup_a, fup_k, fup_fup, Int.reduceAdd, Int.reduceSub, Int.reduceMul, Int.reduceNeg, S_copyFrom, e22, c0]
  · by_cases h10 : h 21 0 < 10
    · rw [if_neg h9, if_pos h10]
      simp (disch := first | assumption | omega) only [st_X1_keep, ↓if_pos, ↓if_neg, if_pos, if_neg, ↓reduceIte, true_and, and_true, false_and, and_false, true_or, or_true, false_or, or_false, w32_id, Kv, Kn, fup_s, fup_a, fup_k, fup_fup, Int.reduceAdd, Int.reduceSub, Int.reduceMul, Int.reduceNeg, S_copyFrom, e22, c0]
    · rw [if_neg h9, if_neg h10]
      simp (disch := first | assumption | omega) only [st_X1_keep, ↓if_pos, ↓if_neg, if_pos, if_neg, ↓reduceIte, true_and, and_true, false_and, and_false, true_or, or_true, false_or, or_false, w32_id, Kv, Kn, fup_s, fup_a, fup_k, fup_fup, Int.reduceAdd, Int.reduceSub, Int.reduceMul, Int.reduceNeg, S_copyFrom, e22, c0]
theorem S_keeps {nx : Nat} {h r : PF} {s : Int → Int} {Q : PO → PY → Nat → PC → Prop} (hW : WFr r) (hu : 0 ≤ h 178 26 ∧ h 178 26 ≤ 10) (K : ∀ G : Int → Int, (∀ k, 0 ≤ k → k < (if h 178 26 < 10 then h 178 26 + 1 else 10) → ∀ i, 0 ≤ i → i < 195 → G (195 * k + i) = if k = (if h 178 26 < 10 then h 178 26 + 1 else 10) - 1 then h 180 i else h 192 (195 * (k + if h 178 26 < 10 then 0 else 1) + i)) → Q (Sum.inl none) LY nx (frow (fup h 178 26 (if h 178 26 < 10 then h 178 26 + 1 else 10)) 192 G, r, s)) : Wp 223 0 [some (pR 178), none] [] LY nx (h, r, s) Q := by
  by_cases h10 : h 178 26 < 10
  · simp only [if_pos h10] at K
    have K2 := K (fcpy h 180 0 192 (195 * h 178 26) 195 192) (fun k h1 h2 i h3 h4 => by
      by_cases hk : k = h 178 26 + 1 - 1
      · rw [if_pos hk, fcpy_in (by omega) (by omega)]
        congr 1
        omega
      · rw [if_neg hk, fcpy_out (by omega)]
        congr 1
        omega)
    have e : frow (fup h 178 26 (h 178 26 + 1)) 192 (fcpy h 180 0 192 (195 * h 178 26) 195 192) = fup (fcpy h 180 0 192 (195 * h 178 26) 195) 178 26 (h 178 26 + 1) := by
      funext a' k'
      unfold frow fup fcpy
      repeat' split
      all_goals first | rfl | (exfalso; omega) | (simp_all; done)
    rw [e] at K2
    simp (disch := first | assumption | omega) only [st_X8_keeps, ↓if_pos, ↓if_neg, if_pos, if_neg, ↓reduceIte, true_and, and_true, false_and, and_false, true_or, or_true, false_or, or_false, w32_id, Kv, Kn, fup_s, fup_a, fup_k, fup_fup, Int.reduceAdd, Int.reduceSub, Int.reduceMul, Int.reduceNeg, (S_copies (a := 180) (b := 192) (n1 := 195) (n2 := 1950) (by decide) (by decide +kernel) (by decide) (by decide +kernel)), (S_copies (a := 192) (b := 192) (n1 := 1950) (n2 := 1950) (by decide) (by decide +kernel) (by decide) (by decide +kernel)), fcpy_a]
    exact K2
  · have hu10 : h 178 26 = 10 := by omega
    simp only [if_neg h10] at K
    simp (disch := first | assumption | omega) only [st_X8_keeps, ↓if_pos, ↓if_neg, if_pos, if_neg, ↓reduceIte, true_and, and_true, false_and, and_false, true_or, or_true, false_or, or_false, w32_id, Kv, Kn, fup_s, fup_a, fup_k, fup_fup, Int.reduceAdd, Int.reduceSub, Int.reduceMul, Int.reduceNeg, (S_copies (a := 180) (b := 192) (n1 := 195) (n2 := 1950) (by decide) (by decide +kernel) (by decide) (by decide +kernel)), (S_copies (a := 192) (b := 192) (n1 := 1950) (n2 := 1950) (by decide) (by decide +kernel) (by decide) (by decide +kernel)), fcpy_a, hu10]
    refine (loopR (Lf := fun i => [some (pR 178), some (pI i)]) (Hf := fun i => frng (fup h 178 26 9) 192 0 (195 * i) (fun q => h 192 (q + 195))) (a := 0) (n := 9) (by omega) (by rfl) (frng_nil (by omega)).symm ?_).mpr ?_
    · intro i hi hi2
      refine Iff.trans sh_X8_keeps_21 ?_
      simp (disch := first | assumption | omega) only [st_X8_keeps, ↓if_pos, ↓if_neg, if_pos, if_neg, ↓reduceIte, true_and, and_true, false_and, and_false, true_or, or_true, false_or, or_false, w32_id, Kv, Kn, fup_s, fup_a, fup_k, fup_fup, Int.reduceAdd, Int.reduceSub, Int.reduceMul, Int.reduceNeg, (S_copies (a := 180) (b := 192) (n1 := 195) (n2 := 1950) (by decide) (by decide +kernel) (by decide) (by decide +kernel)), (S_copies (a := 192) (b := 192) (n1 := 1950) (n2 := 1950) (by decide) (by decide +kernel) (by decide) (by decide +kernel)), frng_a]
      refine Wp_cong rfl ?_
      funext a' k'
      unfold frng fcpy
      dsimp only
      by_cases h1 : a' = 192 ∧ 195 * i ≤ k' ∧ k' < 195 * i + 195
      · rw [if_pos h1, if_neg (by omega), fup_a (by omega), if_pos (by omega)]
        congr 1
        omega
      · rw [if_neg h1]
        by_cases h2 : a' = 192 ∧ 0 ≤ k' ∧ k' < 195 * i
        · rw [if_pos h2, if_pos (by omega)]
        · rw [if_neg h2, if_neg (by omega)]
    · refine sh_X8_keeps_21.mpr ?_
      simp (disch := first | assumption | omega) only [st_X8_keeps, ↓if_pos, ↓if_neg, if_pos, if_neg, ↓reduceIte, true_and, and_true, false_and, and_false, true_or, or_true, false_or, or_false, w32_id, Kv, Kn, fup_s, fup_a, fup_k, fup_fup, Int.reduceAdd, Int.reduceSub, Int.reduceMul, Int.reduceNeg, (S_copies (a := 180) (b := 192) (n1 := 195) (n2 := 1950) (by decide) (by decide +kernel) (by decide) (by decide +kernel)), (S_copies (a := 192) (b := 192) (n1 := 1950) (n2 := 1950) (by decide) (by decide +kernel) (by decide) (by decide +kernel)), frng_a, fcpy_a]
      have K2 := K (fcpy (frng h 192 0 1755 (fun q => h 192 (q + 195))) 180 0 192 1755 195 192) (fun k h1 h2 i h3 h4 => by
        by_cases hk : k = 10 - 1
        · rw [if_pos hk, fcpy_in (by omega) (by omega), frng_a (by omega)]
          congr 1
          omega
        · rw [if_neg hk, fcpy_out (by omega)]
          unfold frng
          rw [if_pos (by omega)]
          dsimp only
          congr 1
          omega)
      have e : frow (fup h 178 26 10) 192 (fcpy (frng h 192 0 1755 (fun q => h 192 (q + 195))) 180 0 192 1755 195 192) = fup (fcpy (frng (fup h 178 26 9) 192 0 1755 (fun q => h 192 (q + 195))) 180 0 192 1755 195) 178 26 10 := by
        funext a' k'
        unfold frow fup fcpy frng
        dsimp only
        repeat' split
        all_goals first | rfl | (exfalso; omega) | (simp_all; done)
      rw [e] at K2
      exact K2
theorem inv_keep {h h' r : PF} (hI : Inv h r) (hc : ∀ a, (a = 2 ∨ a = 3 ∨ (15 ≤ a ∧ a ≤ 17) ∨ (124 ≤ a ∧ a ≤ 143) ∨ (164 ≤ a ∧ a ≤ 177) ∨ a = 179 ∨ a = 181 ∨ a = 193 ∨ a = 194) → h' a = h a) (h4 : h' 178 4 = h 178 4) (h12 : h' 178 12 = h 178 12) (hb : ∀ a, a = 21 ∨ (24 ≤ a ∧ a < 124) → h' a = kepC h a) (h26 : h' 178 26 = if h 178 26 < 10 then h 178 26 + 1 else 10) (h192 : ∀ k, 0 ≤ k → k < (if h 178 26 < 10 then h 178 26 + 1 else 10) → ∀ i, 0 ≤ i → i < 195 → h' 192 (195 * k + i) = if k = (if h 178 26 < 10 then h 178 26 + 1 else 10) - 1 then h 180 i else h 192 (195 * (k + if h 178 26 < 10 then 0 else 1) + i)) (hS' : StRel h' 144 (h 179) (h' 180)) (hN' : NWf (h 179) (h' 180)) : Inv h' r := by
  obtain ⟨hr, hT, hN, hR, hS, ⟨u1, u2, u3, u4⟩, hL, hX, hF⟩ := hI
  have e2 := hc 2 (by omega)
  have e3 := hc 3 (by omega)
  have e15 := hc 15 (by omega)
  have e16 := hc 16 (by omega)
  have e17 := hc 17 (by omega)
  have e179 := hc 179 (by omega)
  have e181 := hc 181 (by omega)
  have e193 := hc 193 (by omega)
  have e194 := hc 194 (by omega)
  have e21 := hb 21 (by omega)
  have eu3 : ∀ k, uRow h' 193 k = uRow h 193 k := fun k => by unfold uRow; rw [e193]
  have e210 : h' 21 0 = if h 21 0 < 10 then h 21 0 + 1 else 10 := by rw [e21]; unfold kepC; rw [fup_s]
  have e211 : h' 21 1 = if h 21 1 + 1 < 10 then h 21 1 + 1 else 0 := by rw [e21]; unfold kepC; rw [fup_k (by omega), fup_s]
  have e212 : h' 21 2 = h 21 2 := by rw [e21]; unfold kepC; rw [fup_k (by omega), fup_k (by omega), cpS_r (by omega)]
  have hT1 := hT.2.1
  unfold Inv
  rw [e179]
  refine ⟨hr, hT, hN', pr_fr (fun a h1 h2 => hc a (by rcases hr.2.1 with z | z <;> omega)) hR, hS', ?_, ?_, ?_, ?_⟩
  · unfold UndoRel
    rw [e210, e211, h26, u1]
    refine ⟨rfl, by split <;> omega, by split <;> omega, fun k h1 h2 => ?_⟩
    have hrow := h192 k h1 h2
    by_cases hk : k = (if h 178 26 < 10 then h 178 26 + 1 else 10) - 1
    · have eb : undoB (if h 21 1 + 1 < 10 then h 21 1 + 1 else 0) (if h 178 26 < 10 then h 178 26 + 1 else 10) k = 24 + 10 * h 21 1 := by
        unfold undoB
        split <;> split <;> omega
      have he : ∀ i, 0 ≤ i → i < 195 → uRow h' 192 k i = h 180 i := fun i h3 h4 => by
        have := hrow i h3 h4
        rw [if_pos hk] at this
        exact this
      rw [eb]
      refine ⟨sr_ext hT1.2 hN.1.2 hN.2.2.2.1.2 (sr_fr (fun a h3 h4 => ?_) (sr_copy (a := 24 + 10 * h 21 1) (b := 144) hT1.2 hN.1.2 hN.2.2.2.1.2 (by omega) hS)) he, nwf_ext hT hN he⟩
      rw [hb a (by omega)]
      unfold kepC
      rw [fup_r (by omega), fup_r (by omega)]
    · have hk2 : 0 ≤ k + (if h 178 26 < 10 then 0 else 1) ∧ k + (if h 178 26 < 10 then 0 else 1) < h 178 26 := by split at h2 <;> split <;> split at hk <;> omega
      have eb : undoB (if h 21 1 + 1 < 10 then h 21 1 + 1 else 0) (if h 178 26 < 10 then h 178 26 + 1 else 10) k = undoB (h 21 1) (h 178 26) (k + (if h 178 26 < 10 then 0 else 1)) := by
        unfold undoB
        split at hk2 <;> split <;> split <;> split <;> omega
      have hne : undoB (h 21 1) (h 178 26) (k + (if h 178 26 < 10 then 0 else 1)) ≠ 24 + 10 * h 21 1 := by
        unfold undoB
        split at hk2 <;> split <;> split at hk <;> omega
      have hrg := undoB_rng u3.1 u3.2 u2.1 u2.2 hk2.1 hk2.2
      have hmod : ∃ j, undoB (h 21 1) (h 178 26) (k + (if h 178 26 < 10 then 0 else 1)) = 24 + 10 * j := ⟨_, rfl⟩
      obtain ⟨j, hj⟩ := hmod
      have u5 := u4 _ hk2.1 hk2.2
      have he : ∀ i, 0 ≤ i → i < 195 → uRow h' 192 k i = uRow h 192 (k + (if h 178 26 < 10 then 0 else 1)) i := fun i h3 h4 => by
        have := hrow i h3 h4
        rw [if_neg hk] at this
        exact this
      rw [eb]
      refine ⟨sr_ext hT1.2 u5.2.1.2 u5.2.2.2.2.1.2 (sr_fr (fun a h3 h4 => ?_) u5.1) he, nwf_ext hT u5.2 he⟩
      rw [hb a (by omega)]
      unfold kepC
      rw [fup_r (by omega), fup_r (by omega), cpS_r (by omega)]
  · obtain ⟨s1, s2⟩ := hL
    unfold SlotRel
    rw [e212, e194]
    refine ⟨s1, fun k h1 h2 => ?_⟩
    have s3 := s2 k h1 h2
    rw [eu3]
    exact ⟨s3.1, s3.2.1, fun h3 => ⟨sr_fr (fun a h4 h5 => hc a (by omega)) (s3.2.2 h3).1, (s3.2.2 h3).2⟩⟩
  · unfold TextRel
    rw [e2, e3, e181, h4, h12]
    exact hX
  · unfold SearchOk
    rw [e15, e16, e17]
    exact hF
