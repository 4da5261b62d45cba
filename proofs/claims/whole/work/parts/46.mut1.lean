theorem sr_m0 {h : PF} {b m v : Int} {T N : Int → Int} (hT1 : T 1 ≤ 4) (h60 : N 3 ≤ 60) (hm : 0 ≤ m) (hm4 : m < 4) (hS : StRel h b T N) : StRel (fup h (b + 1) m v) b T (up1 N (64 + 11 * m + 0) v) := by
  obtain ⟨⟨a1, a2, a3, a4, a5, a6, a7, a8, a9⟩, hw, ha, hl, hmm⟩ := hS
  have u : ∀ k, k < 64 ∨ 108 ≤ k → k ≠ 64 + 11 * m + 0 → up1 N (64 + 11 * m + 0) v k = N k := fun k _ hk2 => up1_k hk2
  refine ⟨⟨by rw [fup_a (by omega), u 3 (by omega) (by omega)]; exact a1, by rw [fup_a (by omega), u 0 (by omega) (by omega)]; exact a2, by rw [fup_a (by omega), u 1 (by omega) (by omega)]; exact a3, by rw [fup_a (by omega), u 2 (by omega) (by omega)]; exact a4, by rw [fup_a (by omega), u 108 (by omega) (by omega)]; exact a5, by rw [fup_a (by omega)]; exact a6, by rw [fup_a (by omega)]; exact a7, by rw [u 191 (by omega) (by omega)]; exact a8, by rw [u 189 (by omega) (by omega)]; exact a9⟩, fun k h1 h2 => ?_, fun i h1 h2 => ?_, fun k i h1 h2 h3 h4 => ?_, fun m' h1 h2 => ⟨⟨?_, ?_, ?_, ?_, ?_⟩, fun t' h3 h4 => ?_⟩⟩
  · rw [u 3 (by omega) (by omega)] at h2
    rw [fup_a (by omega), u (4 + k) (by omega) (by omega)]
    exact hw k h1 h2
  · rw [fup_a (by omega), u (189 + i) (by omega) (by omega)]
    exact ha i h1 h2
  · rw [u 108 (by omega) (by omega)] at h2
    have e14 : (fup h (b + 1) m v) b 14 = h b 14 := fup_a (by omega)
    rw [e14, fup_a (by omega), u (109 + 4 * k + i) (by omega) (by omega)]
    exact hl k i h1 h2 h3 h4
  · by_cases hx : m' = m
    · rw [hx, fup_s, gOf_s]
    · rw [fup_k hx, gOf_k (by omega)]
      exact (hmm m' h1 h2).1.1
  · rw [fup_a (by omega), gOf_k (by omega)]
    exact (hmm m' h1 h2).1.2.1
  · rw [fup_a (by omega), gOf_k (by omega)]
    exact (hmm m' h1 h2).1.2.2.1
  · rw [fup_a (by omega), gOf_k (by omega)]
    exact (hmm m' h1 h2).1.2.2.2.1
  · rw [fup_a (by omega), gOf_k (by omega)]
    exact (hmm m' h1 h2).1.2.2.2.2
  · rw [fup_a (by omega), gOf_k (by omega)]
    exact (hmm m' h1 h2).2 t' h3 h4
theorem sr_m1 {h : PF} {b m v : Int} {T N : Int → Int} (hT1 : T 1 ≤ 4) (h60 : N 3 ≤ 60) (hm : 0 ≤ m) (hm4 : m < 4) (hS : StRel h b T N) : StRel (fup h (b + 2) m v) b T (up1 N (64 + 11 * m + 1) v) := by
  obtain ⟨⟨a1, a2, a3, a4, a5, a6, a7, a8, a9⟩, hw, ha, hl, hmm⟩ := hS
  have u : ∀ k, k < 64 ∨ 108 ≤ k → k ≠ 64 + 11 * m + 1 → up1 N (64 + 11 * m + 1) v k = N k := fun k _ hk2 => up1_k hk2
  refine ⟨⟨by rw [fup_a (by omega), u 3 (by omega) (by omega)]; exact a1, by rw [fup_a (by omega), u 0 (by omega) (by omega)]; exact a2, by rw [fup_a (by omega), u 1 (by omega) (by omega)]; exact a3, by rw [fup_a (by omega), u 2 (by omega) (by omega)]; exact a4, by rw [fup_a (by omega), u 108 (by omega) (by omega)]; exact a5, by rw [fup_a (by omega)]; exact a6, by rw [fup_a (by omega)]; exact a7, by rw [u 191 (by omega) (by omega)]; exact a8, by rw [u 189 (by omega) (by omega)]; exact a9⟩, fun k h1 h2 => ?_, fun i h1 h2 => ?_, fun k i h1 h2 h3 h4 => ?_, fun m' h1 h2 => ⟨⟨?_, ?_, ?_, ?_, ?_⟩, fun t' h3 h4 => ?_⟩⟩
  · rw [u 3 (by omega) (by omega)] at h2
    rw [fup_a (by omega), u (4 + k) (by omega) (by omega)]
    exact hw k h1 h2
  · rw [fup_a (by omega), u (189 + i) (by omega) (by omega)]
    exact ha i h1 h2
  · rw [u 108 (by omega) (by omega)] at h2
    have e14 : (fup h (b + 2) m v) b 14 = h b 14 := fup_a (by omega)
    rw [e14, fup_a (by omega), u (109 + 4 * k + i) (by omega) (by omega)]
    exact hl k i h1 h2 h3 h4
  · rw [fup_a (by omega), gOf_k (by omega)]
    exact (hmm m' h1 h2).1.1
  · by_cases hx : m' = m
    · rw [hx, fup_s, gOf_s]
    · rw [fup_k hx, gOf_k (by omega)]
      exact (hmm m' h1 h2).1.2.1
  · rw [fup_a (by omega), gOf_k (by omega)]
    exact (hmm m' h1 h2).1.2.2.1
  · rw [fup_a (by omega), gOf_k (by omega)]
    exact (hmm m' h1 h2).1.2.2.2.1
  · rw [fup_a (by omega), gOf_k (by omega)]
    exact (hmm m' h1 h2).1.2.2.2.2
  · rw [fup_a (by omega), gOf_k (by omega)]
    exact (hmm m' h1 h2).2 t' h3 h4
theorem sr_m2 {h : PF} {b m v : Int} {T N : Int → Int} (hT1 : T 1 ≤ 4) (h60 : N 3 ≤ 60) (hm : 0 ≤ m) (hm4 : m < 4) (hS : StRel h b T N) : StRel (fup h (b + 3) m v) b T (up1 N (64 + 11 * m + 2) v) := by
  obtain ⟨⟨a1, a2, a3, a4, a5, a6, a7, a8, a9⟩, hw, ha, hl, hmm⟩ := hS
  have u : ∀ k, k < 64 ∨ 108 ≤ k → k ≠ 64 + 11 * m + 2 → up1 N (64 + 11 * m + 2) v k = N k := fun k _ hk2 => up1_k hk2
  refine ⟨⟨by rw [fup_a (by omega), u 3 (by omega) (by omega)]; exact a1, by rw [fup_a (by omega), u 0 (by omega) (by omega)]; exact a2, by rw [fup_a (by omega), u 1 (by omega) (by omega)]; exact a3, by rw [fup_a (by omega), u 2 (by omega) (by omega)]; exact a4, by rw [fup_a (by omega), u 108 (by omega) (by omega)]; exact a5, by rw [fup_a (by omega)]; exact a6, by rw [fup_a (by omega)]; exact a7, by rw [u 191 (by omega) (by omega)]; exact a8, by rw [u 189 (by omega) (by omega)]; exact a9⟩, fun k h1 h2 => ?_, fun i h1 h2 => ?_, fun k i h1 h2 h3 h4 => ?_, fun m' h1 h2 => ⟨⟨?_, ?_, ?_, ?_, ?_⟩, fun t' h3 h4 => ?_⟩⟩
  · rw [u 3 (by omega) (by omega)] at h2
    rw [fup_a (by omega), u (4 + k) (by omega) (by omega)]
    exact hw k h1 h2
  · rw [fup_a (by omega), u (189 + i) (by omega) (by omega)]
    exact ha i h1 h2
  · rw [u 108 (by omega) (by omega)] at h2
    have e14 : (fup h (b + 3) m v) b 14 = h b 14 := fup_a (by omega)
    rw [e14, fup_a (by omega), u (109 + 4 * k + i) (by omega) (by omega)]
    exact hl k i h1 h2 h3 h4
  · rw [fup_a (by omega), gOf_k (by omega)]
    exact (hmm m' h1 h2).1.1
  · rw [fup_a (by omega), gOf_k (by omega)]
    exact (hmm m' h1 h2).1.2.1
  · by_cases hx : m' = m
    · rw [hx, fup_s, gOf_s]
    · rw [fup_k hx, gOf_k (by omega)]
      exact (hmm m' h1 h2).1.2.2.1
  · rw [fup_a (by omega), gOf_k (by omega)]
    exact (hmm m' h1 h2).1.2.2.2.1
  · rw [fup_a (by omega), gOf_k (by omega)]
    exact (hmm m' h1 h2).1.2.2.2.2
  · rw [fup_a (by omega), gOf_k (by omega)]
    exact (hmm m' h1 h2).2 t' h3 h4
theorem sr_m3 {h : PF} {b m v : Int} {T N : Int → Int} (hT1 : T 1 ≤ 4) (h60 : N 3 ≤ 60) (hm : 0 ≤ m) (hm4 : m < 4) (hS : StRel h b T N) : StRel (fup h (b + 4) m v) b T (up1 N (64 + 11 * m + 3) v) := by
  obtain ⟨⟨a1, a2, a3, a4, a5, a6, a7, a8, a9⟩, hw, ha, hl, hmm⟩ := hS
  have u : ∀ k, k < 64 ∨ 108 ≤ k → k ≠ 64 + 11 * m + 3 → up1 N (64 + 11 * m + 3) v k = N k := fun k _ hk2 => up1_k hk2
  refine ⟨⟨by rw [fup_a (by omega), u 3 (by omega) (by omega)]; exact a1, by rw [fup_a (by omega), u 0 (by omega) (by omega)]; exact a2, by rw [fup_a (by omega), u 1 (by omega) (by omega)]; exact a3, by rw [fup_a (by omega), u 2 (by omega) (by omega)]; exact a4, by rw [fup_a (by omega), u 108 (by omega) (by omega)]; exact a5, by rw [fup_a (by omega)]; exact a6, by rw [fup_a (by omega)]; exact a7, by rw [u 191 (by omega) (by omega)]; exact a8, by rw [u 189 (by omega) (by omega)]; exact a9⟩, fun k h1 h2 => ?_, fun i h1 h2 => ?_, fun k i h1 h2 h3 h4 => ?_, fun m' h1 h2 => ⟨⟨?_, ?_, ?_, ?_, ?_⟩, fun t' h3 h4 => ?_⟩⟩
  · rw [u 3 (by omega) (by omega)] at h2
    rw [fup_a (by omega), u (4 + k) (by omega) (by omega)]
    exact hw k h1 h2
  · rw [fup_a (by omega), u (189 + i) (by omega) (by omega)]
    exact ha i h1 h2
  · rw [u 108 (by omega) (by omega)] at h2
    have e14 : (fup h (b + 4) m v) b 14 = h b 14 := fup_a (by omega)
    rw [e14, fup_a (by omega), u (109 + 4 * k + i) (by omega) (by omega)]
    exact hl k i h1 h2 h3 h4
  · rw [fup_a (by omega), gOf_k (by omega)]
    exact (hmm m' h1 h2).1.1
  · rw [fup_a (by omega), gOf_k (by omega)]
    exact (hmm m' h1 h2).1.2.1
  · rw [fup_a (by omega), gOf_k (by omega)]
    exact (hmm m' h1 h2).1.2.2.1
  · by_cases hx : m' = m
    · rw [hx, fup_s, gOf_s]
    · rw [fup_k hx, gOf_k (by omega)]
      exact (hmm m' h1 h2).1.2.2.2.1
  · rw [fup_a (by omega), gOf_k (by omega)]
    exact (hmm m' h1 h2).1.2.2.2.2
  · rw [fup_a (by omega), gOf_k (by omega)]
    exact (hmm m' h1 h2).2 t' h3 h4
theorem sr_m4 {h : PF} {b m v : Int} {T N : Int → Int} (hT1 : T 1 ≤ 4) (h60 : N 3 ≤ 60) (hm : 0 ≤ m) (hm4 : m < 4) (hS : StRel h b T N) : StRel (fup h (b + 5) m v) b T (up1 N (64 + 11 * m + 4) v) := by
  obtain ⟨⟨a1, a2, a3, a4, a5, a6, a7, a8, a9⟩, hw, ha, hl, hmm⟩ := hS
  have u : ∀ k, k < 64 ∨ 108 ≤ k → k ≠ 64 + 11 * m + 4 → up1 N (64 + 11 * m + 4) v k = N k := fun k _ hk2 => up1_k hk2
  refine ⟨⟨by rw [fup_a (by omega), u 3 (by omega) (by omega)]; exact a1, by rw [fup_a (by omega), u 0 (by omega) (by omega)]; exact a2, by rw [fup_a (by omega), u 1 (by omega) (by omega)]; exact a3, by rw [fup_a (by omega), u 2 (by omega) (by omega)]; exact a4, by rw [fup_a (by omega), u 108 (by omega) (by omega)]; exact a5, by rw [fup_a (by omega)]; exact a6, by rw [fup_a (by omega)]; exact a7, by rw [u 191 (by omega) (by omega)]; exact a8, by rw [u 189 (by omega) (by omega)]; exact a9⟩, fun k h1 h2 => ?_, fun i h1 h2 => ?_, fun k i h1 h2 h3 h4 => ?_, fun m' h1 h2 => ⟨⟨?_, ?_, ?_, ?_, ?_⟩, fun t' h3 h4 => ?_⟩⟩
  · rw [u 3 (by omega) (by omega)] at h2
    rw [fup_a (by omega), u (4 + k) (by omega) (by omega)]
    exact hw k h1 h2
  · rw [fup_a (by omega), u (189 + i) (by omega) (by omega)]
    exact ha i h1 h2
  · rw [u 108 (by omega) (by omega)] at h2
    have e14 : (fup h (b + 5) m v) b 14 = h b 14 := fup_a (by omega)
    rw [e14, fup_a (by omega), u (109 + 4 * k + i) (by omega) (by omega)]
    exact hl k i h1 h2 h3 h4
  · rw [fup_a (by omega), gOf_k (by omega)]
    exact (hmm m' h1 h2).1.1
  · rw [fup_a (by omega), gOf_k (by omega)]
    exact (hmm m' h1 h2).1.2.1
  · rw [fup_a (by omega), gOf_k (by omega)]
    exact (hmm m' h1 h2).1.2.2.1
  · rw [fup_a (by omega), gOf_k (by omega)]
    exact (hmm m' h1 h2).1.2.2.2.1
  · by_cases hx : m' = m
    · rw [hx, fup_s, gOf_s]
    · rw [fup_k hx, gOf_k (by omega)]
      exact (hmm m' h1 h2).1.2.2.2.2
  · rw [fup_a (by omega), gOf_k (by omega)]
    exact (hmm m' h1 h2).2 t' h3 h4
theorem sr_f9 {h : PF} {b  v : Int} {T N : Int → Int} (hT1 : T 1 ≤ 4) (h60 : N 3 ≤ 60)  (hS : StRel h b T N) : StRel (fup h b 9 v) b T (up1 N (0) v) := by
  obtain ⟨⟨a1, a2, a3, a4, a5, a6, a7, a8, a9⟩, hw, ha, hl, hmm⟩ := hS
  have u : ∀ k, k < 64 ∨ 108 ≤ k → k ≠ 0 → up1 N (0) v k = N k := fun k _ hk2 => up1_k hk2
  refine ⟨⟨by rw [fup_k (by omega), u 3 (by omega) (by omega)]; exact a1, by rw [fup_s, up1_s], by rw [fup_k (by omega), u 1 (by omega) (by omega)]; exact a3, by rw [fup_k (by omega), u 2 (by omega) (by omega)]; exact a4, by rw [fup_k (by omega), u 108 (by omega) (by omega)]; exact a5, by rw [fup_k (by omega)]; exact a6, by rw [fup_k (by omega)]; exact a7, by rw [u 191 (by omega) (by omega)]; exact a8, by rw [u 189 (by omega) (by omega)]; exact a9⟩, fun k h1 h2 => ?_, fun i h1 h2 => ?_, fun k i h1 h2 h3 h4 => ?_, fun m' h1 h2 => ⟨⟨?_, ?_, ?_, ?_, ?_⟩, fun t' h3 h4 => ?_⟩⟩
  · rw [u 3 (by omega) (by omega)] at h2
    rw [fup_a (by omega), u (4 + k) (by omega) (by omega)]
    exact hw k h1 h2
  · rw [fup_a (by omega), u (189 + i) (by omega) (by omega)]
    exact ha i h1 h2
  · rw [u 108 (by omega) (by omega)] at h2
    have e14 : (fup h b 9 v) b 14 = h b 14 := fup_k (by omega)
    rw [e14, fup_a (by omega), u (109 + 4 * k + i) (by omega) (by omega)]
    exact hl k i h1 h2 h3 h4
  · rw [fup_a (by omega), gOf_k (by omega)]
    exact (hmm m' h1 h2).1.1
  · rw [fup_a (by omega), gOf_k (by omega)]
    exact (hmm m' h1 h2).1.2.1
  · rw [fup_a (by omega), gOf_k (by omega)]
    exact (hmm m' h1 h2).1.2.2.1
  · rw [fup_a (by omega), gOf_k (by omega)]
    exact (hmm m' h1 h2).1.2.2.2.1
  · rw [fup_a (by omega), gOf_k (by omega)]
    exact (hmm m' h1 h2).1.2.2.2.2
  · rw [fup_a (by omega), gOf_k (by omega)]
    exact (hmm m' h1 h2).2 t' h3 h4
theorem sr_f10 {h : PF} {b  v : Int} {T N : Int → Int} (hT1 : T 1 ≤ 4) (h60 : N 3 ≤ 60)  (hS : StRel h b T N) : StRel (fup h b 10 v) b T (up1 N (1) v) := by
  obtain ⟨⟨a1, a2, a3, a4, a5, a6, a7, a8, a9⟩, hw, ha, hl, hmm⟩ := hS
  have u : ∀ k, k < 64 ∨ 108 ≤ k → k ≠ 1 → up1 N (1) v k = N k := fun k _ hk2 => up1_k hk2
  refine ⟨⟨by rw [fup_k (by omega), u 3 (by omega) (by omega)]; exact a1, by rw [fup_k (by omega), u 0 (by omega) (by omega)]; exact a2, by rw [fup_s, up1_s], by rw [fup_k (by omega), u 2 (by omega) (by omega)]; exact a4, by rw [fup_k (by omega), u 108 (by omega) (by omega)]; exact a5, by rw [fup_k (by omega)]; exact a6, by rw [fup_k (by omega)]; exact a7, by rw [u 191 (by omega) (by omega)]; exact a8, by rw [u 189 (by omega) (by omega)]; exact a9⟩, fun k h1 h2 => ?_, fun i h1 h2 => ?_, fun k i h1 h2 h3 h4 => ?_, fun m' h1 h2 => ⟨⟨?_, ?_, ?_, ?_, ?_⟩, fun t' h3 h4 => ?_⟩⟩
  · rw [u 3 (by omega) (by omega)] at h2
    rw [fup_a (by omega), u (4 + k) (by omega) (by omega)]
    exact hw k h1 h2
  · rw [fup_a (by omega), u (189 + i) (by omega) (by omega)]
    exact ha i h1 h2
  · rw [u 108 (by omega) (by omega)] at h2
    have e14 : (fup h b 10 v) b 14 = h b 14 := fup_k (by omega)
    rw [e14, fup_a (by omega), u (109 + 4 * k + i) (by omega) (by omega)]
    exact hl k i h1 h2 h3 h4
  · rw [fup_a (by omega), gOf_k (by omega)]
    exact (hmm m' h1 h2).1.1
  · rw [fup_a (by omega), gOf_k (by omega)]
    exact (hmm m' h1 h2).1.2.1
  · rw [fup_a (by omega), gOf_k (by omega)]
    exact (hmm m' h1 h2).1.2.2.1
  · rw [fup_a (by omega), gOf_k (by omega)]
    exact (hmm m' h1 h2).1.2.2.2.1
  · rw [fup_a (by omega), gOf_k (by omega)]
    exact (hmm m' h1 h2).1.2.2.2.2
  · rw [fup_a (by omega), gOf_k (by omega)]
    exact (hmm m' h1 h2).2 t' h3 h4
theorem sr_f11 {h : PF} {b  v : Int} {T N : Int → Int} (hT1 : T 1 ≤ 4) (h60 : N 3 ≤ 60)  (hS : StRel h b T N) : StRel (fup h b 11 v) b T (up1 N (2) v) := by
  obtain ⟨⟨a1, a2, a3, a4, a5, a6, a7, a8, a9⟩, hw, ha, hl, hmm⟩ := hS
  have u : ∀ k, k < 64 ∨ 108 ≤ k → k ≠ 2 → up1 N (2) v k = N k := fun k _ hk2 => up1_k hk2
  refine ⟨⟨by rw [fup_k (by omega), u 3 (by omega) (by omega)]; exact a1, by rw [fup_k (by omega), u 0 (by omega) (by omega)]; exact a2, by rw [fup_k (by omega), u 1 (by omega) (by omega)]; exact a3, by rw [fup_s, up1_s], by rw [fup_k (by omega), u 108 (by omega) (by omega)]; exact a5, by rw [fup_k (by omega)]; exact a6, by rw [fup_k (by omega)]; exact a7, by rw [u 191 (by omega) (by omega)]; exact a8, by rw [u 189 (by omega) (by omega)]; exact a9⟩, fun k h1 h2 => ?_, fun i h1 h2 => ?_, fun k i h1 h2 h3 h4 => ?_, fun m' h1 h2 => ⟨⟨?_, ?_, ?_, ?_, ?_⟩, fun t' h3 h4 => ?_⟩⟩
  · rw [u 3 (by omega) (by omega)] at h2
    rw [fup_a (by omega), u (4 + k) (by omega) (by omega)]
    exact hw k h1 h2
  · rw [fup_a (by omega), u (189 + i) (by omega) (by omega)]
    exact ha i h1 h2
  · rw [u 108 (by omega) (by omega)] at h2
    have e14 : (fup h b 11 v) b 14 = h b 14 := fup_k (by omega)
    rw [e14, fup_a (by omega), u (109 + 4 * k + i) (by omega) (by omega)]
    exact hl k i h1 h2 h3 h4
  · rw [fup_a (by omega), gOf_k (by omega)]
    exact (hmm m' h1 h2).1.1
  · rw [fup_a (by omega), gOf_k (by omega)]
    exact (hmm m' h1 h2).1.2.1
  · rw [fup_a (by omega), gOf_k (by omega)]
    exact (hmm m' h1 h2).1.2.2.1
  · rw [fup_a (by omega), gOf_k (by omega)]
    exact (hmm m' h1 h2).1.2.2.2.1
  · rw [fup_a (by omega), gOf_k (by omega)]
    exact (hmm m' h1 h2).1.2.2.2.2
  · rw [fup_a (by omega), gOf_k (by omega)]
    exact (hmm m' h1 h2).2 t' h3 h4
theorem sr_acc {h : PF} {b a v : Int} {T N : Int → Int} (hT1 : T 1 ≤ 4) (h60 : N 3 ≤ 60) (h108 : N 108 ≤ 20) (ha0 : 0 ≤ a) (ha6 : a < 6) (hv : a = 2 ∨ a = 0 → w32 v = v) (hS : StRel h b T N) : StRel (fup h (b + 8) a v) b T (up1 N (189 + a) v) := by
  obtain ⟨⟨a1, a2, a3, a4, a5, a6, a7, a8, a9⟩, hw, ha, hl, hmm⟩ := hS
  have u : ∀ k, k < 64 ∨ 108 ≤ k → k ≠ 189 + a → up1 N (189 + a) v k = N k := fun k _ hk2 => up1_k hk2
  refine ⟨⟨by rw [fup_a (by omega), u 3 (by omega) (by omega)]; exact a1, by rw [fup_a (by omega), u 0 (by omega) (by omega)]; exact a2, by rw [fup_a (by omega), u 1 (by omega) (by omega)]; exact a3, by rw [fup_a (by omega), u 2 (by omega) (by omega)]; exact a4, by rw [fup_a (by omega), u 108 (by omega) (by omega)]; exact a5, by rw [fup_a (by omega)]; exact a6, by rw [fup_a (by omega)]; exact a7, by
      by_cases hz2 : a = 2
      · subst hz2; rw [show (189 + 2 : Int) = 191 from rfl, up1_s]; exact hv (Or.inl rfl)
      · rw [up1_k (by omega)]; exact a8, by
      by_cases hz2 : a = 0
      · subst hz2; rw [show (189 + 0 : Int) = 189 from rfl, up1_s]; exact hv (Or.inr rfl)
      · rw [up1_k (by omega)]; exact a9⟩, fun k h1 h2 => ?_, fun i h1 h2 => ?_, fun k i h1 h2 h3 h4 => ?_, fun m' h1 h2 => ⟨⟨?_, ?_, ?_, ?_, ?_⟩, fun t' h3 h4 => ?_⟩⟩
  · rw [u 3 (by omega) (by omega)] at h2
    rw [fup_a (by omega), u (4 + k) (by omega) (by omega)]
    exact hw k h1 h2
  · by_cases hia : i = a
    · rw [hia, fup_s, up1_s]
    · rw [fup_k hia, up1_k (by omega)]
      exact ha i h1 h2
  · rw [u 108 (by omega) (by omega)] at h2
    have e14 : (fup h (b + 8) a v) b 14 = h b 14 := fup_a (by omega)
    rw [e14, fup_a (by omega), u (109 + 4 * k + i) (by omega) (by omega)]
    exact hl k i h1 h2 h3 h4
  · rw [fup_a (by omega), gOf_k (by omega)]
    exact (hmm m' h1 h2).1.1
  · rw [fup_a (by omega), gOf_k (by omega)]
    exact (hmm m' h1 h2).1.2.1
  · rw [fup_a (by omega), gOf_k (by omega)]
    exact (hmm m' h1 h2).1.2.2.1
  · rw [fup_a (by omega), gOf_k (by omega)]
    exact (hmm m' h1 h2).1.2.2.2.1
  · rw [fup_a (by omega), gOf_k (by omega)]
    exact (hmm m' h1 h2).1.2.2.2.2
  · rw [fup_a (by omega), gOf_k (by omega)]
    exact (hmm m' h1 h2).2 t' h3 h4
theorem sr_str {h : PF} {b m t v : Int} {T N : Int → Int} (hT1 : T 1 ≤ 4) (h60 : N 3 ≤ 60) (hm : 0 ≤ m) (hm4 : m < 4) (ht : 0 ≤ t) (ht6 : t < 6) (hgs : gS T m t 1 ≠ 0) (hS : StRel h b T N) : StRel (fup h (b + 6) (m * 6 + t) v) b T (up1 N (64 + 11 * m + (5 + t)) v) := by
  obtain ⟨⟨a1, a2, a3, a4, a5, a6, a7, a8, a9⟩, hw, ha, hl, hmm⟩ := hS
  have u : ∀ k, k < 64 ∨ 108 ≤ k → k ≠ 64 + 11 * m + (5 + t) → up1 N (64 + 11 * m + (5 + t)) v k = N k := fun k _ hk2 => up1_k hk2
  refine ⟨⟨by rw [fup_a (by omega), u 3 (by omega) (by omega)]; exact a1, by rw [fup_a (by omega), u 0 (by omega) (by omega)]; exact a2, by rw [fup_a (by omega), u 1 (by omega) (by omega)]; exact a3, by rw [fup_a (by omega), u 2 (by omega) (by omega)]; exact a4, by rw [fup_a (by omega), u 108 (by omega) (by omega)]; exact a5, by rw [fup_a (by omega)]; exact a6, by rw [fup_a (by omega)]; exact a7, by rw [u 191 (by omega) (by omega)]; exact a8, by rw [u 189 (by omega) (by omega)]; exact a9⟩, fun k h1 h2 => ?_, fun i h1 h2 => ?_, fun k i h1 h2 h3 h4 => ?_, fun m' h1 h2 => ⟨⟨?_, ?_, ?_, ?_, ?_⟩, fun t' h3 h4 => ?_⟩⟩
  · rw [u 3 (by omega) (by omega)] at h2
    rw [fup_a (by omega), u (4 + k) (by omega) (by omega)]
    exact hw k h1 h2
  · rw [fup_a (by omega), u (189 + i) (by omega) (by omega)]
    exact ha i h1 h2
  · rw [u 108 (by omega) (by omega)] at h2
    have e14 : (fup h (b + 6) (m * 6 + t) v) b 14 = h b 14 := fup_a (by omega)
    rw [e14, fup_a (by omega), u (109 + 4 * k + i) (by omega) (by omega)]
    exact hl k i h1 h2 h3 h4
  · rw [fup_a (by omega), gOf_k (by omega)]
    exact (hmm m' h1 h2).1.1
  · rw [fup_a (by omega), gOf_k (by omega)]
    exact (hmm m' h1 h2).1.2.1
  · rw [fup_a (by omega), gOf_k (by omega)]
    exact (hmm m' h1 h2).1.2.2.1
  · rw [fup_a (by omega), gOf_k (by omega)]
    exact (hmm m' h1 h2).1.2.2.2.1
  · rw [fup_a (by omega), gOf_k (by omega)]
    exact (hmm m' h1 h2).1.2.2.2.2
  · by_cases hx : m' = m ∧ t' = t
    · rw [hx.1, hx.2, fup_s, gOf_s, if_neg hgs]
    · rw [fup_k (by omega), gOf_k (by omega)]
      exact (hmm m' h1 h2).2 t' h3 h4
theorem sr_str0 {h : PF} {b m t v : Int} {T N : Int → Int} (hT1 : T 1 ≤ 4) (h60 : N 3 ≤ 60) (hm : 0 ≤ m) (hm4 : m < 4) (ht : 0 ≤ t) (ht6 : t < 6) (hgs : gS T m t 1 = 0) (hS : StRel h b T N) : StRel (fup h (b + 6) (m * 6 + t) (-1)) b T (up1 N (64 + 11 * m + (5 + t)) v) := by
  obtain ⟨⟨a1, a2, a3, a4, a5, a6, a7, a8, a9⟩, hw, ha, hl, hmm⟩ := hS
  have u : ∀ k, k < 64 ∨ 108 ≤ k → k ≠ 64 + 11 * m + (5 + t) → up1 N (64 + 11 * m + (5 + t)) v k = N k := fun k _ hk2 => up1_k hk2
  refine ⟨⟨by rw [fup_a (by omega), u 3 (by omega) (by omega)]; exact a1, by rw [fup_a (by omega), u 0 (by omega) (by omega)]; exact a2, by rw [fup_a (by omega), u 1 (by omega) (by omega)]; exact a3, by rw [fup_a (by omega), u 2 (by omega) (by omega)]; exact a4, by rw [fup_a (by omega), u 108 (by omega) (by omega)]; exact a5, by rw [fup_a (by omega)]; exact a6, by rw [fup_a (by omega)]; exact a7, by rw [u 191 (by omega) (by omega)]; exact a8, by rw [u 189 (by omega) (by omega)]; exact a9⟩, fun k h1 h2 => ?_, fun i h1 h2 => ?_, fun k i h1 h2 h3 h4 => ?_, fun m' h1 h2 => ⟨⟨?_, ?_, ?_, ?_, ?_⟩, fun t' h3 h4 => ?_⟩⟩
  · rw [u 3 (by omega) (by omega)] at h2
    rw [fup_a (by omega), u (4 + k) (by omega) (by omega)]
    exact hw k h1 h2
  · rw [fup_a (by omega), u (189 + i) (by omega) (by omega)]
    exact ha i h1 h2
  · rw [u 108 (by omega) (by omega)] at h2
    have e14 : (fup h (b + 6) (m * 6 + t) (-1)) b 14 = h b 14 := fup_a (by omega)
    rw [e14, fup_a (by omega), u (109 + 4 * k + i) (by omega) (by omega)]
    exact hl k i h1 h2 h3 h4
  · rw [fup_a (by omega), gOf_k (by omega)]
    exact (hmm m' h1 h2).1.1
  · rw [fup_a (by omega), gOf_k (by omega)]
    exact (hmm m' h1 h2).1.2.1
  · rw [fup_a (by omega), gOf_k (by omega)]
    exact (hmm m' h1 h2).1.2.2.1
  · rw [fup_a (by omega), gOf_k (by omega)]
    exact (hmm m' h1 h2).1.2.2.2.1
  · rw [fup_a (by omega), gOf_k (by omega)]
    exact (hmm m' h1 h2).1.2.2.2.2
  · by_cases hx : m' = m ∧ t' = t
    · rw [hx.1, hx.2, fup_s, if_pos hgs]
    · rw [fup_k (by omega), gOf_k (by omega)]
      exact (hmm m' h1 h2).2 t' h3 h4
