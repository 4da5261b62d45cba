theorem cpX_r {h : PF} {a b q : Int} (hq : q < a + 1 ∨ a + 9 < q) : cpX h a b q = h q := by
  unfold cpX
  simp (disch := omega) only [fcpy_r]
theorem cpS_r {h : PF} {a b q : Int} (hq : q < a ∨ a + 9 < q) : cpS h a b q = h q := by
  unfold cpS
  simp (disch := omega) only [fup_r, cpX_r]
theorem cpS_f {h : PF} {a b k : Int} (hab : b + 10 ≤ a ∨ a + 10 ≤ b) (hk : k = 8 ∨ k = 9 ∨ k = 10 ∨ k = 11 ∨ k = 13 ∨ k = 14) : cpS h a b a k = h b k := by
  unfold cpS
  rcases hk with rfl | rfl | rfl | rfl | rfl | rfl
  all_goals simp (disch := omega) only [fup_s, fup_k, cpX_r]
theorem cpS_a1 {h : PF} {a b k : Int} (hab : b + 10 ≤ a ∨ a + 10 ≤ b) (h1 : 0 ≤ k) (h2 : k < 4) : cpS h a b (a + 1) k = h (b + 1) k := by
  unfold cpS cpX
  simp (disch := omega) only [fup_a, fcpy_a, fcpy_in, Int.sub_zero, Int.zero_add]
theorem cpS_a2 {h : PF} {a b k : Int} (hab : b + 10 ≤ a ∨ a + 10 ≤ b) (h1 : 0 ≤ k) (h2 : k < 4) : cpS h a b (a + 2) k = h (b + 2) k := by
  unfold cpS cpX
  simp (disch := omega) only [fup_a, fcpy_a, fcpy_in, Int.sub_zero, Int.zero_add]
theorem cpS_a3 {h : PF} {a b k : Int} (hab : b + 10 ≤ a ∨ a + 10 ≤ b) (h1 : 0 ≤ k) (h2 : k < 4) : cpS h a b (a + 3) k = h (b + 3) k := by
  unfold cpS cpX
  simp (disch := omega) only [fup_a, fcpy_a, fcpy_in, Int.sub_zero, Int.zero_add]
theorem cpS_a4 {h : PF} {a b k : Int} (hab : b + 10 ≤ a ∨ a + 10 ≤ b) (h1 : 0 ≤ k) (h2 : k < 4) : cpS h a b (a + 4) k = h (b + 4) k := by
  unfold cpS cpX
  simp (disch := omega) only [fup_a, fcpy_a, fcpy_in, Int.sub_zero, Int.zero_add]
theorem cpS_a5 {h : PF} {a b k : Int} (hab : b + 10 ≤ a ∨ a + 10 ≤ b) (h1 : 0 ≤ k) (h2 : k < 4) : cpS h a b (a + 5) k = h (b + 5) k := by
  unfold cpS cpX
  simp (disch := omega) only [fup_a, fcpy_a, fcpy_in, Int.sub_zero, Int.zero_add]
theorem cpS_a6 {h : PF} {a b k : Int} (hab : b + 10 ≤ a ∨ a + 10 ≤ b) (h1 : 0 ≤ k) (h2 : k < 24) : cpS h a b (a + 6) k = h (b + 6) k := by
  unfold cpS cpX
  simp (disch := omega) only [fup_a, fcpy_a, fcpy_in, Int.sub_zero, Int.zero_add]
theorem cpS_a7 {h : PF} {a b k : Int} (hab : b + 10 ≤ a ∨ a + 10 ≤ b) (h1 : 0 ≤ k) (h2 : k < 60) : cpS h a b (a + 7) k = h (b + 7) k := by
  unfold cpS cpX
  simp (disch := omega) only [fup_a, fcpy_a, fcpy_in, Int.sub_zero, Int.zero_add]
theorem cpS_a8 {h : PF} {a b k : Int} (hab : b + 10 ≤ a ∨ a + 10 ≤ b) (h1 : 0 ≤ k) (h2 : k < 6) : cpS h a b (a + 8) k = h (b + 8) k := by
  unfold cpS cpX
  simp (disch := omega) only [fup_a, fcpy_a, fcpy_in, Int.sub_zero, Int.zero_add]
theorem cpS_a9 {h : PF} {a b k : Int} (hab : b + 10 ≤ a ∨ a + 10 ≤ b) (h1 : 0 ≤ k) (h2 : k < 80) : cpS h a b (a + 9) k = h (b + 9) k := by
  unfold cpS cpX
  simp (disch := omega) only [fup_a, fcpy_a, fcpy_in, Int.sub_zero, Int.zero_add]
/-- a copy of a standing -/
theorem sr_copy {h : PF} {a b : Int} {T N : Int → Int} (hT1 : T 1 ≤ 4) (h60 : N 3 ≤ 60) (h108 : N 108 ≤ 20) (hab : b + 10 ≤ a ∨ a + 10 ≤ b) (hS : StRel h b T N) : StRel (cpS h a b) a T N := by
  obtain ⟨⟨a1, a2, a3, a4, a5, a6, a7, a8⟩, hw, ha, hl, hmm⟩ := hS
  have f := fun k hk => cpS_f (h := h) (a := a) (b := b) (k := k) hab hk
  refine ⟨⟨by rw [f 8 (by omega)]; exact a1, by rw [f 9 (by omega)]; exact a2, by rw [f 10 (by omega)]; exact a3, by rw [f 11 (by omega)]; exact a4, by rw [f 13 (by omega)]; exact a5, by rw [f 14 (by omega)]; exact a6, by rw [f 14 (by omega)]; exact a7, a8⟩, fun k h1 h2 => by rw [cpS_a7 hab h1 (by omega)]; exact hw k h1 h2, fun i h1 h2 => by rw [cpS_a8 hab h1 h2]; exact ha i h1 h2, fun k i h1 h2 h3 h4 => ?_, fun m h1 h2 => ?_⟩
  · have hx : 0 ≤ logIx (h b 14) k ∧ logIx (h b 14) k < 20 := by unfold logIx; split <;> omega
    rw [f 14 (by omega), cpS_a9 hab (by omega) (by omega)]
    exact hl k i h1 h2 h3 h4
  · have q := hmm m h1 h2
    rw [cpS_a1 hab h1 (by omega), cpS_a2 hab h1 (by omega), cpS_a3 hab h1 (by omega), cpS_a4 hab h1 (by omega), cpS_a5 hab h1 (by omega)]
    refine ⟨q.1, fun t h3 h4 => ?_⟩
    rw [cpS_a6 hab (by omega) (by omega)]
    exact q.2 t h3 h4
