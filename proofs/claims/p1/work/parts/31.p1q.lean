theorem S_clear {p : Int} {nx : Nat} {h r : PF} {s : Int → Int} {Q : PO → PY → Nat → PC → Prop} (hP : PlOk r p) : Wp 19 0 [some (pR p)] [] LY nx (h, r, s) Q ↔ Q (Sum.inl none) LY nx (frng (frng (frng (fup (fup (fup (fup (fup h p 0 1) p 1 0) p 2 0) p 3 4) p 4 1) (p + 4) 0 4 (fun _ => 0)) (p + 5) 0 24 (fun _ => -1)) (p + 6) 0 96 (fun _ => -1), r, s) := by
  obtain ⟨⟨hp0, hpk⟩, ⟨hpr5, hpp5, hpd5⟩, ⟨hpr6, hpp6, hpd6⟩, ⟨hpr7, hpp7, hpd7⟩, ⟨hpr8, hpp8, hpd8⟩, ⟨hpr9, hpp9, hpd9⟩, ⟨hpr10, hpp10, hpd10⟩⟩ := hP
  simp (disch := first | assumption | omega) only [st_X2_clear, ↓if_pos, ↓if_neg, if_pos, if_neg, ↓reduceIte, true_and, and_true, false_and, and_false, true_or, or_true, false_or, or_false, w32_id, Kv, Kn, fup_s, fup_a, fup_k, fup_fup, Int.reduceAdd, Int.reduceSub, Int.reduceMul, Int.reduceNeg, (S_fill (a := p + 4) (n := 4) hpp8 hpd8 (by decide)), (S_fill (a := p + 5) (n := 24) hpp9 hpd9 (by decide)), (S_fill (a := p + 6) (n := 96) hpp10 hpd10 (by decide))]
  rfl
theorem S_clearsRead {nx : Nat} {h r : PF} {s : Int → Int} {Q : PO → PY → Nat → PC → Prop} (hW : WFr r) : Wp 149 0 [some (pR 178), none] [] LY nx (h, r, s) Q ↔ Q (Sum.inl none) LY nx (fup (fup (fup (frng h 182 0 164 (fun _ => 0)) 182 2 4) 182 3 1) 178 14 0, r, s) := by
  simp (disch := first | assumption | omega) only [st_X8_clearsRead, ↓if_pos, ↓if_neg, if_pos, if_neg, ↓reduceIte, true_and, and_true, false_and, and_false, true_or, or_true, false_or, or_false, w32_id, Kv, Kn, fup_s, fup_a, fup_k, fup_fup, Int.reduceAdd, Int.reduceSub, Int.reduceMul, Int.reduceNeg]
  refine Iff.trans (loopR (Lf := fun i => [some (pR 178), some (pI i)]) (Hf := fun i => frng h 182 0 i (fun _ => 0)) (a := 0) (n := 164) (by omega) (by rfl) (frng_nil (by omega)).symm ?_) ?_
  · intro i hi hi2
    refine Iff.trans sh_X8_clearsRead_2 ?_
    simp (disch := first | assumption | omega) only [st_X8_clearsRead, ↓if_pos, ↓if_neg, if_pos, if_neg, ↓reduceIte, true_and, and_true, false_and, and_false, true_or, or_true, false_or, or_false, w32_id, Kv, Kn, fup_s, fup_a, fup_k, fup_fup, Int.reduceAdd, Int.reduceSub, Int.reduceMul, Int.reduceNeg]
    rw [frng_end (by omega) rfl]
  · refine Iff.trans sh_X8_clearsRead_2 ?_
    simp (disch := first | assumption | omega) only [st_X8_clearsRead, ↓if_pos, ↓if_neg, if_pos, if_neg, ↓reduceIte, true_and, and_true, false_and, and_false, true_or, or_true, false_or, or_false, w32_id, Kv, Kn, fup_s, fup_a, fup_k, fup_fup, Int.reduceAdd, Int.reduceSub, Int.reduceMul, Int.reduceNeg]
theorem E_readInto0 {p : Int} {nx : Nat} {h r : PF} {s : Int → Int} {Q : PO → PY → Nat → PC → Prop} (hW : WFr r) (hP : PlOk r p) (hp1 : 160 < p) (hp2 : p ≤ 171) (K : ∀ h', h' 2 1 = 1 → h' 178 = h 178 → Q (Sum.inl (some (pI 0))) LY nx (h', r, s)) : Wp 26 0 [some (pR 2), some (pR p), some (pI 0), none, none] [] LY nx (h, r, s) Q := by
  have hz : (0 < p ∧ kd LY p = (0, 2)) := hP.1
  have hz1 := hz.1
  have hz2 := hz.2
  simp (disch := first | assumption | omega) only [st_X3_readInto_0, st_X3_readInto_1, st_X6_find, st_X6_add, st_X6_kind, st_X6_start, st_X3_isKeyword, st_X3_fail, ↓if_pos, ↓if_neg, if_pos, if_neg, ↓reduceIte, true_and, and_true, false_and, and_false, true_or, or_true, false_or, or_false, w32_id, Kv, Kn, fup_s, fup_a, fup_k, fup_fup, Int.reduceAdd, Int.reduceSub, Int.reduceMul, Int.reduceNeg, S_clear, frng_a, w8_id, sh_X6_find_10]
  refine K _ ?_ ?_
  · simp (disch := omega) only [fup_s, fup_k, fup_a]
  · simp (disch := omega) only [fup_r, frng_r]
theorem F_advance0 {nx : Nat} {h r : PF} {s : Int → Int} {Q : PO → PY → Nat → PC → Prop} (hW : WFr r) (e5 : h 178 5 = 0) (e7 : h 178 7 = 0) : Wp 132 0 [some (pR 178), none] [] LY nx (h, r, s) Q ↔ Q (Sum.inl none) LY nx (fup (fup (fup (fup h 178 6 0) 178 9 0) 178 10 0) 178 8 0, r, s) := by
  simp (disch := first | assumption | omega) only [st_X8_byteAt, st_X8_advance_0, st_X8_advance_1, st_X8_advance_2, ↓if_pos, ↓if_neg, if_pos, if_neg, ↓reduceIte, true_and, and_true, false_and, and_false, true_or, or_true, false_or, or_false, w32_id, Kv, Kn, fup_s, fup_a, fup_k, fup_fup, Int.reduceAdd, Int.reduceSub, Int.reduceMul, Int.reduceNeg, sh_X8_advance_0, e7]
theorem C_1 {i : Int} {l5 l6 : Option PV} {nx : Nat} {h r : PF} {s : Int → Int} {Q : PO → PY → Nat → PC → Prop} (hI : P1F h r) (hi : 0 ≤ i) (hi2 : i + 5 < s (-1)) (hi3 : s (-1) ≤ 4000) (H : ∀ (a b : Option PV) (nx' : Nat) (h' r' : PF), nx' ≤ nx + 1 → Wp 257 2079 [some (pR (-1000)), some (pR 1), some (pR 178), some (pR 195), some (pI i), a, b, none] [] LY nx' (h', r', s) Q) : Wp 257 265 [some (pR (-1000)), some (pR 1), some (pR 178), some (pR 195), some (pI i), l5, l6, none] [] LY nx (h, r, s) Q := by
  have hI2 := hI
  obtain ⟨hW, hp0, hpk, k152, k144, hp, hdr, hw1, hw2, hacc, hac2, hpm, hpl, hp3, hp4, q0, f20, f21, f22, g0, g4, g11, g12, g26, t0, t1, t2, t3, n0, n1, n2, n3, n108, s8, s9, s10, s11, s13, s14, c0, c1, c2, e153, v0, v1⟩ := hI
  by_cases hc : s (i + 1) = 0
  · simp (disch := first | assumption | omega | (simp (disch := omega) only [fup_s, fup_a, fup_k, putB_a, putB_o, cpS_r, col0_r, fcpy_r, frow_r, frng_r]; omega) | (simp (disch := omega) only [fup_s, fup_a, fup_k, putB_a, putB_o, cpS_r, col0_r, fcpy_r, frow_r, frng_r]; assumption)) only [st_law_1, st_L_parse, st_X7_parse, ↓if_pos, ↓if_neg, if_pos, if_neg, ↓reduceIte, true_and, and_true, false_and, and_false, true_or, or_true, false_or, or_false, w32_id, Kv, Kn, fup_s, fup_a, fup_k, fup_fup, Int.reduceAdd, Int.reduceSub, Int.reduceMul, Int.reduceNeg, S_thrown, S_within, S_throwsIf, S_checkArgument, kh_L_parse_0, kx_X7_parse, hc]
    refine E_readInto0 hW (by rw [hdr]; exact plok_171 hW) (by omega) (by omega) ?_
    intro h' e1 e2
    have u0 : h' 178 0 = 0 := by rw [e2]; exact g0
    have u4 : h' 178 4 = 0 := by rw [e2]; exact g4
    have u11 : h' 178 11 = 0 := by rw [e2]; exact g11
    simp (disch := first | assumption | omega | (simp (disch := omega) only [fup_s, fup_a, fup_k, putB_a, putB_o, cpS_r, col0_r, fcpy_r, frow_r, frng_r]; omega) | (simp (disch := omega) only [fup_s, fup_a, fup_k, putB_a, putB_o, cpS_r, col0_r, fcpy_r, frow_r, frng_r]; assumption)) only [st_law_1, st_L_parse, st_X7_parse, st_X8_parse_0, st_X8_parse_1, ↓if_pos, ↓if_neg, if_pos, if_neg, ↓reduceIte, true_and, and_true, false_and, and_false, true_or, or_true, false_or, or_false, w32_id, Kv, Kn, fup_s, fup_a, fup_k, fup_fup, Int.reduceAdd, Int.reduceSub, Int.reduceMul, Int.reduceNeg, S_thrown, S_within, S_throwsIf, S_checkArgument, kh_L_parse_0, kx_X7_parse, hc, S_clearsRead, frng_a, plcmp_eq, e1, u4]
    rw [F_advance0 hW (by simp (disch := omega) only [fup_s, fup_a, fup_k, frng_a]) (by simp (disch := omega) only [fup_s, fup_a, fup_k, frng_a])]
    simp (disch := first | assumption | omega | (simp (disch := omega) only [fup_s, fup_a, fup_k, putB_a, putB_o, cpS_r, col0_r, fcpy_r, frow_r, frng_r]; omega) | (simp (disch := omega) only [fup_s, fup_a, fup_k, putB_a, putB_o, cpS_r, col0_r, fcpy_r, frow_r, frng_r]; assumption)) only [st_law_1, st_L_parse, st_X8_parse_0, st_X8_parse_1, st_X8_isWord, st_X8_starts, st_X8_fails, st_X8_byteAt, ↓if_pos, ↓if_neg, if_pos, if_neg, ↓reduceIte, true_and, and_true, false_and, and_false, true_or, or_true, false_or, or_false, w32_id, Kv, Kn, fup_s, fup_a, fup_k, fup_fup, Int.reduceAdd, Int.reduceSub, Int.reduceMul, Int.reduceNeg, S_thrown, S_within, S_throwsIf, S_checkArgument, kh_L_parse_0, kx_X7_parse, hc, frng_a, plcmp_eq, e1, u4, (by decide +kernel : pstrLen (-1) = 7), sh_X8_parse_102, sh_X8_isWord_32]
    exact H _ _ _ _ _ (by omega)
  · simp (disch := first | assumption | omega | (simp (disch := omega) only [fup_s, fup_a, fup_k, putB_a, putB_o, cpS_r, col0_r, fcpy_r, frow_r, frng_r]; omega) | (simp (disch := omega) only [fup_s, fup_a, fup_k, putB_a, putB_o, cpS_r, col0_r, fcpy_r, frow_r, frng_r]; assumption)) only [st_law_1, st_L_parse, st_X7_parse, st_X8_parse_0, st_X8_parse_1, ↓if_pos, ↓if_neg, if_pos, if_neg, ↓reduceIte, true_and, and_true, false_and, and_false, true_or, or_true, false_or, or_false, w32_id, Kv, Kn, fup_s, fup_a, fup_k, fup_fup, Int.reduceAdd, Int.reduceSub, Int.reduceMul, Int.reduceNeg, S_thrown, S_within, S_throwsIf, S_checkArgument, kh_L_parse_0, kx_X7_parse]
    exact H _ _ _ _ _ (by omega)
theorem law_p1 {h r : PF} {s : Int → Int} (hI : Ini h r) (h0 : 0 ≤ s (-1)) (h6 : s (-1) ≤ 6) : Wp 257 23 law0 [] LY 0 (h, r, s) (fun o l n _ => o = Sum.inl (some (pI 1)) ∧ l = LY ∧ n ≤ 1) := by
  have E : ∀ (a b : Option PV) (i : Int) (nx' : Nat) (h' r' : PF), nx' ≤ 1 → s (-1) - 6 < i → i ≤ 6 → Wp 257 23 [some (pR (-1000)), some (pR 1), some (pR 178), some (pR 195), some (pI i), a, b, none] [] LY nx' (h', r', s) (fun o l n _ => o = Sum.inl (some (pI 1)) ∧ l = LY ∧ n ≤ 1) := by
    intro a b i nx' h' r' hn hi hi2
    rw [sh_L_law_23]
    simp (disch := first | assumption | omega) only [st_law_h, st_law_e, ↓if_pos, ↓if_neg, if_pos, if_neg, ↓reduceIte, true_and, and_true, false_and, and_false, true_or, or_true, false_or, or_false, w32_id, Kv, Kn, fup_s, fup_a, fup_k, fup_fup, Int.reduceAdd, Int.reduceSub, Int.reduceMul, Int.reduceNeg]
    exact hn
  by_cases hL : s (-1) = 6
  · have H : ∀ (a b : Option PV) (nx' : Nat) (h' r' : PF), nx' ≤ 0 + 1 → Wp 257 2079 [some (pR (-1000)), some (pR 1), some (pR 178), some (pR 195), some (pI 0), a, b, none] [] LY nx' (h', r', s) (fun o l n _ => o = Sum.inl (some (pI 1)) ∧ l = LY ∧ n ≤ 1) := by
      intro a b nx' h' r' hn
      simp (disch := first | assumption | omega) only [st_law_e, ↓if_pos, ↓if_neg, if_pos, if_neg, ↓reduceIte, true_and, and_true, false_and, and_false, true_or, or_true, false_or, or_false, w32_id, Kv, Kn, fup_s, fup_a, fup_k, fup_fup, Int.reduceAdd, Int.reduceSub, Int.reduceMul, Int.reduceNeg]
      exact E _ _ _ _ _ _ (by omega) (by omega) (by omega)
    unfold law0
    rw [sh_L_law_23]
    simp (disch := first | assumption | omega) only [st_law_h, ↓if_pos, ↓if_neg, if_pos, if_neg, ↓reduceIte, true_and, and_true, false_and, and_false, true_or, or_true, false_or, or_false, w32_id, Kv, Kn, fup_s, fup_a, fup_k, fup_fup, Int.reduceAdd, Int.reduceSub, Int.reduceMul, Int.reduceNeg]
    have hcs : (pand (s 0) 63 < 0 ∨ 33 < pand (s 0) 63) ∨ pand (s 0) 63 = 0 ∨ pand (s 0) 63 = 1 ∨ pand (s 0) 63 = 2 ∨ pand (s 0) 63 = 3 ∨ pand (s 0) 63 = 4 ∨ pand (s 0) 63 = 5 ∨ pand (s 0) 63 = 6 ∨ pand (s 0) 63 = 7 ∨ pand (s 0) 63 = 8 ∨ pand (s 0) 63 = 9 ∨ pand (s 0) 63 = 10 ∨ pand (s 0) 63 = 11 ∨ pand (s 0) 63 = 12 ∨ pand (s 0) 63 = 13 ∨ pand (s 0) 63 = 14 ∨ pand (s 0) 63 = 15 ∨ pand (s 0) 63 = 16 ∨ pand (s 0) 63 = 17 ∨ pand (s 0) 63 = 18 ∨ pand (s 0) 63 = 19 ∨ pand (s 0) 63 = 20 ∨ pand (s 0) 63 = 21 ∨ pand (s 0) 63 = 22 ∨ pand (s 0) 63 = 23 ∨ pand (s 0) 63 = 24 ∨ pand (s 0) 63 = 25 ∨ pand (s 0) 63 = 26 ∨ pand (s 0) 63 = 27 ∨ pand (s 0) 63 = 28 ∨ pand (s 0) 63 = 29 ∨ pand (s 0) 63 = 30 ∨ pand (s 0) 63 = 31 ∨ pand (s 0) 63 = 32 ∨ pand (s 0) 63 = 33 := by omega
    rcases hcs with hc | hc | hc | hc | hc | hc | hc | hc | hc | hc | hc | hc | hc | hc | hc | hc | hc | hc | hc | hc | hc | hc | hc | hc | hc | hc | hc | hc | hc | hc | hc | hc | hc | hc | hc
    · rw [st_law_sw34 _ _ _ _ _ _ _ _ _ hc]
      exact H _ _ _ _ _ (by omega)
    · rw [hc, st_law_sw0]
      exact C_0 (p1f hI) (by omega) (by omega) (by omega) H
    · rw [hc, st_law_sw1]
      exact C_1 (p1f hI) (by omega) (by omega) (by omega) H
    · rw [hc, st_law_sw2]
      exact C_2 (p1f hI) (by omega) (by omega) (by omega) H
    · rw [hc, st_law_sw3]
      exact C_3 (p1f hI) (by omega) (by omega) (by omega) H
    · rw [hc, st_law_sw4]
      exact C_4 (p1f hI) (by omega) (by omega) (by omega) H
    · rw [hc, st_law_sw5]
      exact C_5 (p1f hI) (by omega) (by omega) (by omega) H
    · rw [hc, st_law_sw6]
      exact C_6 (p1f hI) (by omega) (by omega) (by omega) H
    · rw [hc, st_law_sw7]
      exact C_7 (p1f hI) (by omega) (by omega) (by omega) H
    · rw [hc, st_law_sw8]
      exact C_8 (p1f hI) (by omega) (by omega) (by omega) H
    · rw [hc, st_law_sw9]
      exact C_9 (p1f hI) (by omega) (by omega) (by omega) H
    · rw [hc, st_law_sw10]
      exact C_10 (p1f hI) (by omega) (by omega) (by omega) H
    · rw [hc, st_law_sw11]
      exact C_11 (p1f hI) (by omega) (by omega) (by omega) H
    · rw [hc, st_law_sw12]
      exact C_12 (p1f hI) (by omega) (by omega) (by omega) H
    · rw [hc, st_law_sw13]
      exact C_13 (p1f hI) (by omega) (by omega) (by omega) H
    · rw [hc, st_law_sw14]
      exact C_14 (p1f hI) (by omega) (by omega) (by omega) H
    · rw [hc, st_law_sw15]
      exact C_15 (p1f hI) (by omega) (by omega) (by omega) H
    · rw [hc, st_law_sw16]
      exact C_16 (p1f hI) (by omega) (by omega) (by omega) H
    · rw [hc, st_law_sw17]
      exact C_17 (p1f hI) (by omega) (by omega) (by omega) H
    · rw [hc, st_law_sw18]
      exact C_18 (p1f hI) (by omega) (by omega) (by omega) H
    · rw [hc, st_law_sw19]
      exact C_19 (p1f hI) (by omega) (by omega) (by omega) H
    · rw [hc, st_law_sw20]
      exact C_20 (p1f hI) (by omega) (by omega) (by omega) H
    · rw [hc, st_law_sw21]
      exact C_21 (p1f hI) (by omega) (by omega) (by omega) H
    · rw [hc, st_law_sw22]
      exact C_22 (p1f hI) (by omega) (by omega) (by omega) H
    · rw [hc, st_law_sw23]
      exact C_23 (p1f hI) (by omega) (by omega) (by omega) H
    · rw [hc, st_law_sw24]
      exact C_24 (p1f hI) (by omega) (by omega) (by omega) H
    · rw [hc, st_law_sw25]
      exact C_25 (p1f hI) (by omega) (by omega) (by omega) H
    · rw [hc, st_law_sw26]
      exact C_26 (p1f hI) (by omega) (by omega) (by omega) H
    · rw [hc, st_law_sw27]
      exact C_27 (p1f hI) (by omega) (by omega) (by omega) H
    · rw [hc, st_law_sw28]
      exact C_28 (p1f hI) (by omega) (by omega) (by omega) H
    · rw [hc, st_law_sw29]
      exact C_29 (p1f hI) (by omega) (by omega) (by omega) H
    · rw [hc, st_law_sw30]
      exact C_30 (p1f hI) (by omega) (by omega) (by omega) H
    · rw [hc, st_law_sw31]
      exact C_31 (p1f hI) (by omega) (by omega) (by omega) H
    · rw [hc, st_law_sw32]
      exact C_32 (p1f hI) (by omega) (by omega) (by omega) H
    · rw [hc, st_law_sw33]
      exact C_33 (p1f hI) (by omega) (by omega) (by omega) H
  · unfold law0
    exact E _ _ _ _ _ _ (by omega) (by omega) (by omega)
