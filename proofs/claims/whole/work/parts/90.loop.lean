/-! THE BEGINNING, AND THE LOOP OVER THE CALLS -/
theorem ini_inv {h r : PF} (hI : Ini h r) : Inv h r := by
  obtain ⟨hW, r16, r17, r4, r5, hc⟩ := hI
  have e : ∀ (a : Int) (n : Nat), (a, n) ∈ iniC → ∀ k : Int, 0 ≤ k → k < n → h a k = iniv a k := fun a n hq => hc (a, n) hq
  have z : ∀ (a : Int) (n : Nat), (a, n) ∈ iniC → a ≠ 2 → a ≠ 164 → a ≠ 169 → a ≠ 170 → a ≠ 178 → a ≠ 179 → ∀ k : Int, 0 ≤ k → k < n → h a k = 0 := fun a n hq h1 h2 h3 h4 h5 h6 k h7 h8 => by
    rw [e a n hq k h7 h8]
    unfold iniv
    rw [if_neg h1, if_neg h2, if_neg h3, if_neg h4, if_neg h5, if_neg h6]
  have t : ∀ k, 0 ≤ k → k < 164 → h 179 k = iniv 179 k := e 179 164 (by decide +kernel)
  have n : ∀ k, 0 ≤ k → k < 195 → h 180 k = 0 := z 180 195 (by decide +kernel) (by omega) (by omega) (by omega) (by omega) (by omega) (by omega)
  have t0 : h 179 0 = 1 := (t 0 (by omega) (by omega)).trans (by decide +kernel)
  have t1 : h 179 1 = 0 := (t 1 (by omega) (by omega)).trans (by decide +kernel)
  have t2 : h 179 2 = 4 := (t 2 (by omega) (by omega)).trans (by decide +kernel)
  have t3 : h 179 3 = 1 := (t 3 (by omega) (by omega)).trans (by decide +kernel)
  have p : ∀ k, 0 ≤ k → k < 5 → h 164 k = iniv 164 k := e 164 5 (by decide +kernel)
  have p0 : h 164 0 = 1 := (p 0 (by omega) (by omega)).trans (by decide +kernel)
  have p1 : h 164 1 = 0 := (p 1 (by omega) (by omega)).trans (by decide +kernel)
  have p2 : h 164 2 = 0 := (p 2 (by omega) (by omega)).trans (by decide +kernel)
  have p3 : h 164 3 = 4 := (p 3 (by omega) (by omega)).trans (by decide +kernel)
  have p4 : h 164 4 = 1 := (p 4 (by omega) (by omega)).trans (by decide +kernel)
  have s144 : ∀ k, 0 ≤ k → k < 15 → h 144 k = 0 := z 144 15 (by decide +kernel) (by omega) (by omega) (by omega) (by omega) (by omega) (by omega)
  have s152 : ∀ k, 0 ≤ k → k < 6 → h 152 k = 0 := z 152 6 (by decide +kernel) (by omega) (by omega) (by omega) (by omega) (by omega) (by omega)
  have s21 : ∀ k, 0 ≤ k → k < 3 → h 21 k = 0 := z 21 3 (by decide +kernel) (by omega) (by omega) (by omega) (by omega) (by omega) (by omega)
  have s194 : ∀ k, 0 ≤ k → k < 2 → h 194 k = 0 := z 194 2 (by decide +kernel) (by omega) (by omega) (by omega) (by omega) (by omega) (by omega)
  have s15 : ∀ k, 0 ≤ k → k < 8 → h 15 k = 0 := z 15 8 (by decide +kernel) (by omega) (by omega) (by omega) (by omega) (by omega) (by omega)
  have s16 : ∀ k, 0 ≤ k → k < 2401 → h 16 k = 0 := z 16 2401 (by decide +kernel) (by omega) (by omega) (by omega) (by omega) (by omega) (by omega)
  have m26 : h 178 26 = 0 := (e 178 30 (by decide +kernel) 26 (by omega) (by omega)).trans (by decide +kernel)
  have m4 : h 178 4 = 0 := (e 178 30 (by decide +kernel) 4 (by omega) (by omega)).trans (by decide +kernel)
  have m12 : h 178 12 = -1 := (e 178 30 (by decide +kernel) 12 (by omega) (by omega)).trans (by decide +kernel)
  have q0 : h 2 0 = 0 := (e 2 9 (by decide +kernel) 0 (by omega) (by omega)).trans (by decide +kernel)
  have q2 : h 2 2 = -1 := (e 2 9 (by decide +kernel) 2 (by omega) (by omega)).trans (by decide +kernel)
  have n3 := n 3 (by omega) (by omega)
  have n0 := n 0 (by omega) (by omega)
  have n1 := n 1 (by omega) (by omega)
  have n2 := n 2 (by omega) (by omega)
  have n108 := n 108 (by omega) (by omega)
  have n189 := n 189 (by omega) (by omega)
  have n191 := n 191 (by omega) (by omega)
  refine ⟨⟨hW, Or.inl ⟨r16, r17⟩, Or.inl ⟨r4, r5⟩⟩, ⟨by omega, by omega, by omega, by omega, fun k h1 h2 => ?_, fun m h1 h2 => absurd h2 (by omega)⟩, ⟨by omega, fun k h1 h2 => absurd h2 (by omega), by omega, by omega, fun m h1 h2 => absurd h2 (by omega), by omega, ?_⟩, ?_, ?_, ?_, ?_, ?_, ?_⟩
  · rw [t k h1 h2]
    unfold iniv
    (repeat' split) <;> omega
  · rw [t1, n1]
    show (0 : Int) ≤ 3996
    omega
  · rw [r16]
    exact ⟨⟨by omega, by omega, by omega, by omega, by omega, by omega⟩, fun m h1 h2 => absurd h2 (by omega)⟩
  · refine ⟨⟨?_, ?_, ?_, ?_, ?_, ?_, ?_, ?_, ?_⟩, fun k h1 h2 => absurd h2 (by omega), fun i h1 h2 => ?_, fun k i h1 h2 => absurd h2 (by omega), fun m h1 h2 => absurd h2 (by omega)⟩
    · rw [s144 8 (by omega) (by omega), n3]
    · rw [s144 9 (by omega) (by omega), n0]
    · rw [s144 10 (by omega) (by omega), n1]
    · rw [s144 11 (by omega) (by omega), n2]
    · rw [s144 13 (by omega) (by omega), n108]
    · rw [s144 14 (by omega) (by omega)]; omega
    · rw [s144 14 (by omega) (by omega)]; omega
    · rw [n191, w32_id (by omega) (by omega)]
    · rw [n189, w32_id (by omega) (by omega)]
    · rw [n (189 + i) (by omega) (by omega)]
      exact s152 i h1 h2
  · unfold UndoRel
    rw [m26, s21 0 (by omega) (by omega), s21 1 (by omega) (by omega)]
    exact ⟨rfl, by omega, by omega, fun k h1 h2 => absurd h2 (by omega)⟩
  · unfold SlotRel
    rw [s21 2 (by omega) (by omega)]
    refine ⟨by omega, fun k h1 h2 => ?_⟩
    rw [s194 k h1 h2, bit0 h1 (by omega)]
    exact ⟨Or.inl rfl, by omega, fun z => absurd z (by omega)⟩
  · unfold TextRel
    rw [q0, m4, q2, m12]
    exact ⟨by omega, rfl, fun k h1 h2 => absurd h2 (by omega), rfl⟩
  · unfold SearchOk
    rw [s15 3 (by omega) (by omega)]
    exact ⟨by omega, fun i h1 h2 => absurd h2 (by omega), fun c h1 h2 h3 => absurd (s16 c h1 h2) h3⟩
theorem law_loop {s : Int → Int} (h0 : 0 ≤ s (-1)) (h6 : s (-1) ≤ 3072) : ∀ (n : Nat) (a b : Option PV) (i : Int) (nx : Nat) (h r : PF), Inv h r → nx + n ≤ 512 → 0 ≤ i → s (-1) - 6 < i + 6 * n → i ≤ 4000 → Wp 257 23 [some (pR (-1000)), some (pR 1), some (pR 178), some (pR 195), some (pI i), a, b, none] [] LY nx (h, r, s) (fun o l n _ => o = Sum.inl (some (pI 1)) ∧ l = LY ∧ n ≤ 512) := by
  have ex : ∀ (a b : Option PV) (i : Int) (nx : Nat) (h r : PF), nx ≤ 512 → s (-1) - 6 < i → i ≤ 4000 → Wp 257 23 [some (pR (-1000)), some (pR 1), some (pR 178), some (pR 195), some (pI i), a, b, none] [] LY nx (h, r, s) (fun o l n _ => o = Sum.inl (some (pI 1)) ∧ l = LY ∧ n ≤ 512) := by
    intro a b i nx h r hn hi hi2
    rw [sh_L_law_23]
    simp (disch := first | assumption | omega) only [st_law_h, st_law_e, ↓if_pos, ↓if_neg, if_pos, if_neg, ↓reduceIte, true_and, and_true, false_and, and_false, true_or, or_true, false_or, or_false, w32_id, Kv, Kn, fup_s, fup_a, fup_k, fup_fup, Int.reduceAdd, Int.reduceSub, Int.reduceMul, Int.reduceNeg]
    exact hn
  intro n
  induction n with
  | zero => intro a b i nx h r hI hn hi hi2 hi3; exact ex a b i nx h r (by omega) (by omega) hi3
  | succ n ih =>
    intro a b i nx h r hI hn hi hi2 hi3
    by_cases hc0 : s (-1) - 6 < i
    · exact ex a b i nx h r (by omega) hc0 hi3
    · have H : ∀ (a b : Option PV) (nx' : Nat) (h' r' : PF), Inv h' r' → nx' ≤ nx + 1 → Wp 257 2079 [some (pR (-1000)), some (pR 1), some (pR 178), some (pR 195), some (pI i), a, b, none] [] LY nx' (h', r', s) (fun o l n _ => o = Sum.inl (some (pI 1)) ∧ l = LY ∧ n ≤ 512) := by
        intro a b nx' h' r' hI' hn'
        simp (disch := first | assumption | omega) only [st_law_e, ↓if_pos, ↓if_neg, if_pos, if_neg, ↓reduceIte, true_and, and_true, false_and, and_false, true_or, or_true, false_or, or_false, w32_id, Kv, Kn, fup_s, fup_a, fup_k, fup_fup, Int.reduceAdd, Int.reduceSub, Int.reduceMul, Int.reduceNeg]
        exact ih _ _ _ _ _ _ hI' (by omega) (by omega) (by omega) (by omega)
      rw [sh_L_law_23]
      simp (disch := first | assumption | omega) only [st_law_h, ↓if_pos, ↓if_neg, if_pos, if_neg, ↓reduceIte, true_and, and_true, false_and, and_false, true_or, or_true, false_or, or_false, w32_id, Kv, Kn, fup_s, fup_a, fup_k, fup_fup, Int.reduceAdd, Int.reduceSub, Int.reduceMul, Int.reduceNeg]
      have hcs : (pand (s i) 63 < 0 ∨ 33 < pand (s i) 63) ∨ pand (s i) 63 = 0 ∨ pand (s i) 63 = 1 ∨ pand (s i) 63 = 2 ∨ pand (s i) 63 = 3 ∨ pand (s i) 63 = 4 ∨ pand (s i) 63 = 5 ∨ pand (s i) 63 = 6 ∨ pand (s i) 63 = 7 ∨ pand (s i) 63 = 8 ∨ pand (s i) 63 = 9 ∨ pand (s i) 63 = 10 ∨ pand (s i) 63 = 11 ∨ pand (s i) 63 = 12 ∨ pand (s i) 63 = 13 ∨ pand (s i) 63 = 14 ∨ pand (s i) 63 = 15 ∨ pand (s i) 63 = 16 ∨ pand (s i) 63 = 17 ∨ pand (s i) 63 = 18 ∨ pand (s i) 63 = 19 ∨ pand (s i) 63 = 20 ∨ pand (s i) 63 = 21 ∨ pand (s i) 63 = 22 ∨ pand (s i) 63 = 23 ∨ pand (s i) 63 = 24 ∨ pand (s i) 63 = 25 ∨ pand (s i) 63 = 26 ∨ pand (s i) 63 = 27 ∨ pand (s i) 63 = 28 ∨ pand (s i) 63 = 29 ∨ pand (s i) 63 = 30 ∨ pand (s i) 63 = 31 ∨ pand (s i) 63 = 32 ∨ pand (s i) 63 = 33 := by omega
      rcases hcs with hc | hc | hc | hc | hc | hc | hc | hc | hc | hc | hc | hc | hc | hc | hc | hc | hc | hc | hc | hc | hc | hc | hc | hc | hc | hc | hc | hc | hc | hc | hc | hc | hc | hc | hc
      · rw [st_law_sw34 _ _ _ _ _ _ _ _ _ hc]
        exact H _ _ _ _ _ hI (by omega)
      · rw [hc, st_law_sw0]
        exact Q_0 hI hi (by omega) (by omega) H
      · rw [hc, st_law_sw1]
        exact Q_1 hI hi (by omega) (by omega) H
      · rw [hc, st_law_sw2]
        exact Q_2 hI hi (by omega) (by omega) H
      · rw [hc, st_law_sw3]
        exact Q_3 hI hi (by omega) (by omega) H
      · rw [hc, st_law_sw4]
        exact Q_4 hI hi (by omega) (by omega) H
      · rw [hc, st_law_sw5]
        exact Q_5 hI hi (by omega) (by omega) H
      · rw [hc, st_law_sw6]
        exact Q_6 hI hi (by omega) (by omega) H
      · rw [hc, st_law_sw7]
        exact Q_7 hI hi (by omega) (by omega) H
      · rw [hc, st_law_sw8]
        exact Q_8 hI hi (by omega) (by omega) H
      · rw [hc, st_law_sw9]
        exact Q_9 hI hi (by omega) (by omega) H
      · rw [hc, st_law_sw10]
        exact Q_10 hI hi (by omega) (by omega) H
      · rw [hc, st_law_sw11]
        exact Q_11 hI hi (by omega) (by omega) H
      · rw [hc, st_law_sw12]
        exact Q_12 hI hi (by omega) (by omega) H
      · rw [hc, st_law_sw13]
        exact Q_13 hI hi (by omega) (by omega) H
      · rw [hc, st_law_sw14]
        exact Q_14 hI hi (by omega) (by omega) H
      · rw [hc, st_law_sw15]
        exact Q_15 hI hi (by omega) (by omega) H
      · rw [hc, st_law_sw16]
        exact Q_16 hI hi (by omega) (by omega) H
      · rw [hc, st_law_sw17]
        exact Q_17 hI hi (by omega) (by omega) H
      · rw [hc, st_law_sw18]
        exact Q_18 hI hi (by omega) (by omega) H
      · rw [hc, st_law_sw19]
        exact Q_19 hI hi (by omega) (by omega) H
      · rw [hc, st_law_sw20]
        exact Q_20 hI hi (by omega) (by omega) H
      · rw [hc, st_law_sw21]
        exact Q_21 hI hi (by omega) (by omega) H
      · rw [hc, st_law_sw22]
        exact Q_22 hI hi (by omega) (by omega) H
      · rw [hc, st_law_sw23]
        exact Q_23 hI hi (by omega) (by omega) H
      · rw [hc, st_law_sw24]
        exact Q_24 hI hi (by omega) (by omega) H
      · rw [hc, st_law_sw25]
        exact Q_25 hI hi (by omega) (by omega) H
      · rw [hc, st_law_sw26]
        exact Q_26 hI hi (by omega) (by omega) H
      · rw [hc, st_law_sw27]
        exact Q_27 hI hi (by omega) (by omega) H
      · rw [hc, st_law_sw28]
        exact Q_28 hI hi (by omega) (by omega) H
      · rw [hc, st_law_sw29]
        exact Q_29 hI hi (by omega) (by omega) H
      · rw [hc, st_law_sw30]
        exact Q_30 hI hi (by omega) (by omega) H
      · rw [hc, st_law_sw31]
        exact Q_31 hI hi (by omega) (by omega) H
      · rw [hc, st_law_sw32]
        exact Q_32 hI hi (by omega) (by omega) H
      · rw [hc, st_law_sw33]
        exact Q_33 hI hi (by omega) (by omega) H
theorem law_ini {h r : PF} {s : Int → Int} (hI : Ini h r) (h0 : 0 ≤ s (-1)) (h6 : s (-1) ≤ 3072) : Wp 257 23 law0 [] LY 0 (h, r, s) (fun o l n _ => o = Sum.inl (some (pI 1)) ∧ l = LY ∧ n ≤ 512) := by
  have := law_loop h0 h6 512 none none 0 0 h r (ini_inv hI) (by omega) (by omega) (by omega) (by omega)
  exact this
