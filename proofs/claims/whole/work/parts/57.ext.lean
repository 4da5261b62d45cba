/-! ONLY THE FIRST 195 PLACES OF A ROW COUNT -/
theorem gTot_ext {N N' : Int → Int} (he : ∀ k, 0 ≤ k → k < 195 → N' k = N k) : ∀ n : Nat, n ≤ 4 → gTot N' n = gTot N n
  | 0, _ => he 1 (by omega) (by omega)
  | n + 1, hn => by
    have e : gOf N' n 1 = gOf N n 1 := he _ (by omega) (by omega)
    rw [gTot_S, gTot_S, gTot_ext he n (by omega), e]
theorem nwf_ext {T N N' : Int → Int} (hT : TWf T) (h : NWf T N) (he : ∀ k, 0 ≤ k → k < 195 → N' k = N k) : NWf T N' := by
  have hT1 := hT.2.1
  obtain ⟨h1, h2, h3, h4, h5, h6, h7⟩ := h
  have e3 := he 3 (by omega) (by omega)
  have o : ∀ m w, 0 ≤ m → m < T 1 → 0 ≤ w → w < 11 → gOf N' m w = gOf N m w := fun m w a b c d => he _ (by omega) (by omega)
  refine ⟨by rw [e3]; exact h1, fun k a b => ?_, ?_, by rw [he 108 (by omega) (by omega)]; exact h4, fun m a b => ?_, by rw [he 1 (by omega) (by omega)]; exact h6, ?_⟩
  · rw [e3] at b
    rw [he (4 + k) (by omega) (by omega)]
    exact h2 k a b
  · rw [he 2 (by omega) (by omega)]; exact h3
  · have q := h5 m a b
    rw [o m 0 a b (by omega) (by omega), o m 1 a b (by omega) (by omega), o m 2 a b (by omega) (by omega)]
    refine ⟨q.1, q.2.1, q.2.2.1, fun t c d => ?_⟩
    rw [o m (5 + t) a b (by omega) (by omega)]
    exact q.2.2.2 t c d
  · have := gTot_ext he (T 1).toNat (by omega)
    show gTot N' (T 1).toNat ≤ 3996
    rw [this]
    exact h7
theorem sr_ext {h : PF} {b : Int} {T N N' : Int → Int} (hT1 : T 1 ≤ 4) (h60 : N 3 ≤ 60) (h108 : N 108 ≤ 20) (hS : StRel h b T N) (he : ∀ k, 0 ≤ k → k < 195 → N' k = N k) : StRel h b T N' := by
  obtain ⟨⟨a1, a2, a3, a4, a5, a6, a7, a8⟩, hw, ha, hl, hmm⟩ := hS
  have e3 := he 3 (by omega) (by omega)
  have e108 := he 108 (by omega) (by omega)
  have o : ∀ m w, 0 ≤ m → m < T 1 → 0 ≤ w → w < 11 → gOf N' m w = gOf N m w := fun m w a b c d => he _ (by omega) (by omega)
  refine ⟨⟨by rw [e3]; exact a1, by rw [he 0 (by omega) (by omega)]; exact a2, by rw [he 1 (by omega) (by omega)]; exact a3, by rw [he 2 (by omega) (by omega)]; exact a4, by rw [e108]; exact a5, a6, a7, by rw [he 191 (by omega) (by omega), he 189 (by omega) (by omega)]; exact a8⟩, fun k c d => ?_, fun i c d => by rw [he (189 + i) (by omega) (by omega)]; exact ha i c d, fun k i c d e f => ?_, fun m c d => ?_⟩
  · rw [e3] at d
    rw [he (4 + k) (by omega) (by omega)]
    exact hw k c d
  · rw [e108] at d
    rw [he (109 + 4 * k + i) (by omega) (by omega)]
    exact hl k i c d e f
  · have q := hmm m c d
    rw [o m 0 c d (by omega) (by omega), o m 1 c d (by omega) (by omega), o m 2 c d (by omega) (by omega), o m 3 c d (by omega) (by omega), o m 4 c d (by omega) (by omega)]
    refine ⟨q.1, fun t e f => ?_⟩
    rw [o m (5 + t) c d (by omega) (by omega)]
    exact q.2 t e f
/-- row 180 may differ beyond its places -/
def Same2 (h h' : PF) : Prop := (∀ a, Core a → a ≠ 180 → h' a = h a) ∧ (∀ k, 0 ≤ k → k < 195 → h' 180 k = h 180 k) ∧ h' 178 4 = h 178 4 ∧ h' 178 12 = h 178 12 ∧ h' 178 26 = h 178 26
theorem inv_same2 {h h' r : PF} (hI : Inv h r) (hs : Same2 h h') : Inv h' r := by
  have h1 : Inv (frow h 180 (h' 180)) r := by
    obtain ⟨hr, hT, hN, hR, hS, hU, hL, hX, hF⟩ := hI
    have e : ∀ a, a ≠ 180 → frow h 180 (h' 180) a = h a := fun a ha => frow_r ha
    have hp : r 1 6 = 164 ∨ r 1 6 = 171 := by rcases hr.2.1 with z | z; exact Or.inl z.1; exact Or.inr z.1
    have hN' : NWf (h 179) (h' 180) := nwf_ext hT hN hs.2.1
    unfold Inv
    rw [e 179 (by omega), frow_s]
    refine ⟨hr, hT, hN', pr_fr (fun a h1 h2 => e a (by omega)) hR, ?_, ?_, ?_, ?_, ?_⟩
    · exact sr_fr (fun a h1 h2 => e a (by omega)) (sr_ext hT.2.1.2 hN.1.2 hN.2.2.2.1.2 hS hs.2.1)
    · obtain ⟨u1, u2, u3, u4⟩ := hU
      unfold UndoRel uRow
      rw [e 21 (by omega), e 178 (by omega), e 192 (by omega)]
      refine ⟨u1, u2, u3, fun k h1 h2 => ?_⟩
      have hb := undoB_rng u3.1 u3.2 u2.1 u2.2 h1 h2
      exact ⟨sr_fr (fun a h3 h4 => e a (by omega)) (u4 k h1 h2).1, (u4 k h1 h2).2⟩
    · obtain ⟨s1, s2⟩ := hL
      unfold SlotRel uRow
      rw [e 21 (by omega), e 194 (by omega), e 193 (by omega)]
      refine ⟨s1, fun k h1 h2 => ?_⟩
      have s3 := s2 k h1 h2
      exact ⟨s3.1, s3.2.1, fun h3 => ⟨sr_fr (fun a h4 h5 => e a (by omega)) (s3.2.2 h3).1, (s3.2.2 h3).2⟩⟩
    · unfold TextRel
      rw [e 2 (by omega), e 3 (by omega), e 178 (by omega), e 181 (by omega)]
      exact hX
    · unfold SearchOk
      rw [e 15 (by omega), e 16 (by omega), e 17 (by omega)]
      exact hF
  refine inv_same h1 ⟨fun a ha => ?_, ?_, ?_, ?_⟩
  · by_cases h180 : a = 180
    · rw [h180, frow_s]
    · rw [frow_r h180]; exact hs.1 a ha h180
  · rw [frow_rk (by omega)]; exact hs.2.2.1
  · rw [frow_rk (by omega)]; exact hs.2.2.2.1
  · rw [frow_rk (by omega)]; exact hs.2.2.2.2
theorem S_puts {a b : Int} {n1 n2 : Nat} {nx : Nat} {h r : PF} {s : Int → Int} {Q : PO → PY → Nat → PC → Prop} (h0 : 0 < a) (hk : kd LY a = (1, n1)) (h1 : 0 < b) (hk2 : kd LY b = (1, n2)) (hs2 : 195 ≤ n1) (hd2 : 195 ≤ n2) (hn1 : n1 ≤ 10000) (hn2 : n2 ≤ 10000) (hab : a ≠ b) : Wp 196 0 [some (pR a), some (pR b), none] [] LY nx (h, r, s) Q ↔ Q (Sum.inl none) LY nx (fcpy h a 0 b 0 195, r, s) := by
  simp (disch := first | assumption | omega) only [st_X8_puts, ↓if_pos, ↓if_neg, if_pos, if_neg, ↓reduceIte, true_and, and_true, false_and, and_false, true_or, or_true, false_or, or_false, w32_id, Kv, Kn, fup_s, fup_a, fup_k, fup_fup, Int.reduceAdd, Int.reduceSub, Int.reduceMul, Int.reduceNeg]
  refine Iff.trans (loopR (Lf := fun i => [some (pR a), some (pR b), some (pI i)]) (Hf := fun i => fcpy h a 0 b 0 i) (a := 0) (n := 195) (by omega) (by rfl) (fcpy_nil (by omega)).symm ?_) ?_
  · intro i hi hi2
    refine Iff.trans sh_X8_puts_2 ?_
    simp (disch := first | assumption | omega) only [st_X8_puts, ↓if_pos, ↓if_neg, if_pos, if_neg, ↓reduceIte, true_and, and_true, false_and, and_false, true_or, or_true, false_or, or_false, w32_id, Kv, Kn, fup_s, fup_a, fup_k, fup_fup, Int.reduceAdd, Int.reduceSub, Int.reduceMul, Int.reduceNeg]
    refine Wp_cong rfl ?_
    rw [← fcpy_end (by omega) (Or.inl hab), Int.zero_add]
  · refine Iff.trans sh_X8_puts_2 ?_
    simp (disch := first | assumption | omega) only [st_X8_puts, ↓if_pos, ↓if_neg, if_pos, if_neg, ↓reduceIte, true_and, and_true, false_and, and_false, true_or, or_true, false_or, or_false, w32_id, Kv, Kn, fup_s, fup_a, fup_k, fup_fup, Int.reduceAdd, Int.reduceSub, Int.reduceMul, Int.reduceNeg]
