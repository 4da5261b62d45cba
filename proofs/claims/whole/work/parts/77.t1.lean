/-! TEXT: tokens of bytes -/
def kc (x : Int) : Int := if 97 ≤ x ∧ x ≤ 122 then 1 else if 48 ≤ x ∧ x ≤ 57 then 2 else if x = 32 ∨ x = 10 then 5 else if x = 59 then 3 else 4
theorem kc_rng {x : Int} : 1 ≤ kc x ∧ kc x ≤ 5 := by unfold kc; (repeat' split) <;> omega
theorem kc_1 {x : Int} : kc x = 1 ↔ (97 ≤ x ∧ x ≤ 122) := by unfold kc; (repeat' split) <;> omega
theorem kc_2 {x : Int} : kc x = 2 ↔ (48 ≤ x ∧ x ≤ 57) := by unfold kc; (repeat' split) <;> omega
theorem kc_3 {x : Int} : kc x = 3 ↔ x = 59 := by unfold kc; (repeat' split) <;> omega
theorem kc_5 {x : Int} : kc x = 5 ↔ (x = 32 ∨ x = 10) := by unfold kc; (repeat' split) <;> omega
/-- the end of a run of bytes of one kind -/
def adF (b : Int → Int) (n k : Int) : Nat → Int → Int
  | 0, p => p
  | f + 1, p => if p < n ∧ kc (b p) = k then adF b n k f (p + 1) else p
def ad (b : Int → Int) (n k p : Int) : Int := adF b n k (n - p).toNat p
theorem ad_stop {b : Int → Int} {n k p : Int} (h : n ≤ p ∨ kc (b p) ≠ k) : ad b n k p = p := by
  unfold ad
  by_cases hp : n ≤ p
  · rw [show (n - p).toNat = 0 from by omega]; rfl
  · rw [show (n - p).toNat = (n - (p + 1)).toNat + 1 from by omega]
    show (if p < n ∧ kc (b p) = k then adF b n k (n - (p + 1)).toNat (p + 1) else p) = p
    rw [if_neg (fun z => by rcases h with y | y; exact hp y; exact y z.2)]
theorem ad_go {b : Int → Int} {n k p : Int} (h : p < n) (h2 : kc (b p) = k) : ad b n k p = ad b n k (p + 1) := by
  unfold ad
  rw [show (n - p).toNat = (n - (p + 1)).toNat + 1 from by omega]
  show (if p < n ∧ kc (b p) = k then adF b n k (n - (p + 1)).toNat (p + 1) else p) = _
  rw [if_pos ⟨h, h2⟩]
theorem ad_rngF {b : Int → Int} {n k : Int} : ∀ (m : Nat) (p : Int), p ≤ n → (n - p).toNat ≤ m → p ≤ ad b n k p ∧ ad b n k p ≤ n ∧ (∀ q, p ≤ q → q < ad b n k p → kc (b q) = k) ∧ (ad b n k p < n → kc (b (ad b n k p)) ≠ k)
  | 0, p, h, hm => by
    rw [ad_stop (Or.inl (by omega))]
    exact ⟨Int.le_refl _, h, fun q h1 h2 => absurd h2 (by omega), fun z => absurd z (by omega)⟩
  | m + 1, p, h, hm => by
    by_cases hp : p < n ∧ kc (b p) = k
    · rw [ad_go hp.1 hp.2]
      have ih := ad_rngF (b := b) (n := n) (k := k) m (p + 1) (by omega) (by omega)
      refine ⟨by omega, ih.2.1, fun q h1 h2 => ?_, ih.2.2.2⟩
      by_cases hq : q = p
      · rw [hq]; exact hp.2
      · exact ih.2.2.1 q (by omega) h2
    · have hs : n ≤ p ∨ kc (b p) ≠ k := by
        by_cases h1 : n ≤ p
        · exact Or.inl h1
        · exact Or.inr (fun z => hp ⟨by omega, z⟩)
      rw [ad_stop hs]
      refine ⟨Int.le_refl _, h, fun q h1 h2 => absurd h2 (by omega), fun z => ?_⟩
      rcases hs with y | y
      · omega
      · exact y
theorem ad_rng {b : Int → Int} {n k p : Int} (h : p ≤ n) : p ≤ ad b n k p ∧ ad b n k p ≤ n ∧ (∀ q, p ≤ q → q < ad b n k p → kc (b q) = k) ∧ (ad b n k p < n → kc (b (ad b n k p)) ≠ k) := ad_rngF _ p h (Nat.le_refl _)
/-- the token behind a place: its start, its end, its kind -/
def tS (b : Int → Int) (n p : Int) : Int := ad b n 5 p
def tE (b : Int → Int) (n p : Int) : Int := if n ≤ tS b n p then n else if kc (b (tS b n p)) = 1 ∨ kc (b (tS b n p)) = 2 then ad b n (kc (b (tS b n p))) (tS b n p) else tS b n p + 1
def tK (b : Int → Int) (n p : Int) : Int := if n ≤ tS b n p then 0 else if kc (b (tS b n p)) = 1 then (if 8 < tE b n p - tS b n p then 4 else 1) else if kc (b (tS b n p)) = 2 then (if 3 < tE b n p - tS b n p then 4 else 2) else kc (b (tS b n p))
def tP (b : Int → Int) (n : Int) : Nat → Int
  | 0 => 0
  | j + 1 => tE b n (tP b n j)
theorem tS_rng {b : Int → Int} {n p : Int} (h : p ≤ n) : p ≤ tS b n p ∧ tS b n p ≤ n := ⟨(ad_rng h).1, (ad_rng h).2.1⟩
theorem tE_rng {b : Int → Int} {n p : Int} (h : p ≤ n) : tS b n p ≤ tE b n p ∧ tE b n p ≤ n ∧ (tS b n p < n → tS b n p < tE b n p) := by
  have hs := tS_rng (b := b) h
  unfold tE
  by_cases h1 : n ≤ tS b n p
  · rw [if_pos h1]; omega
  · rw [if_neg h1]
    by_cases h2 : kc (b (tS b n p)) = 1 ∨ kc (b (tS b n p)) = 2
    · rw [if_pos h2, ad_go (by omega) rfl]
      have := ad_rng (b := b) (k := kc (b (tS b n p))) (show tS b n p + 1 ≤ n by omega)
      omega
    · rw [if_neg h2]; omega
theorem tK_0 {b : Int → Int} {n p : Int} : tK b n p = 0 ↔ n ≤ tS b n p := by
  have := kc_rng (x := b (tS b n p))
  unfold tK
  (repeat' split) <;> omega
theorem tP_rng {b : Int → Int} {n : Int} (h : 0 ≤ n) : ∀ j : Nat, 0 ≤ tP b n j ∧ tP b n j ≤ n
  | 0 => ⟨Int.le_refl _, h⟩
  | j + 1 => by
    have ih := tP_rng (b := b) h j
    have a := tS_rng (b := b) ih.2
    have c := tE_rng (b := b) ih.2
    show 0 ≤ tE b n (tP b n j) ∧ tE b n (tP b n j) ≤ n
    omega
theorem tK_end {b : Int → Int} {n : Int} (h : 0 ≤ n) {j : Nat} (hk : tK b n (tP b n j) = 0) : tK b n (tP b n (j + 1)) = 0 := by
  have h1 := tK_0.mp hk
  have h2 : tP b n (j + 1) = n := by
    show tE b n (tP b n j) = n
    unfold tE
    rw [if_pos h1]
  rw [tK_0, h2]
  exact (tS_rng (Int.le_refl n)).1
theorem tP_ge {b : Int → Int} {n : Int} (h : 0 ≤ n) : ∀ j : Nat, tK b n (tP b n j) ≠ 0 → (j : Int) ≤ tP b n j ∧ tP b n j < n
  | 0, hk => by
    have h1 : ¬ n ≤ tS b n (tP b n 0) := fun z => hk (tK_0.mpr z)
    have h2 := tS_rng (b := b) (tP_rng (b := b) h 0).2
    have h3 : tP b n 0 = 0 := rfl
    omega
  | j + 1, hk => by
    have hk' : tK b n (tP b n j) ≠ 0 := fun z => hk (tK_end h z)
    have ih := tP_ge h j hk'
    have h1 : ¬ n ≤ tS b n (tP b n (j + 1)) := fun z => hk (tK_0.mpr z)
    have h2 := tS_rng (b := b) (tP_rng (b := b) h (j + 1)).2
    have h3 : ¬ n ≤ tS b n (tP b n j) := fun z => hk' (tK_0.mpr z)
    have h4 := tE_rng (b := b) (tP_rng (b := b) h j).2
    have h5 := tS_rng (b := b) (tP_rng (b := b) h j).2
    have h6 : tP b n (j + 1) = tE b n (tP b n j) := rfl
    omega
/-- words, last letter first, and the numbers that they are packed to -/
def wd (b : Int → Int) (s : Int) : Nat → List Int
  | 0 => []
  | i + 1 => (b (s + i) - 96) :: wd b s i
def N32 : List Int → Int
  | [] => 0
  | d :: t => N32 t * 32 + d
def v10 (b : Int → Int) (s : Int) : Nat → Int
  | 0 => 0
  | i + 1 => v10 b s i * 10 + (b (s + i) - 48)
def tW (b : Int → Int) (n p : Int) : List Int := wd b (tS b n p) (tE b n p - tS b n p).toNat
def tV (b : Int → Int) (n p : Int) : Int := v10 b (tS b n p) (tE b n p - tS b n p).toNat
/-- the class's value of a run so far -/
def rv (b : Int → Int) (s k : Int) : Nat → Int
  | 0 => 0
  | i + 1 => w64 (w64 (rv b s k i * (if k = 1 then 32 else 10)) + (if k = 1 then w32 (w32 (b (s + i) - 97) + 1) else w32 (b (s + i) - 48)))
def B32 : Nat → Int
  | 0 => 0
  | i + 1 => B32 i * 32 + 26
theorem B32_8 : ∀ i : Fin 9, 0 ≤ B32 i.val ∧ B32 i.val < 1000000000000 := by decide +kernel
theorem wd_rng {b : Int → Int} {s : Int} : ∀ i : Nat, (∀ q, s ≤ q → q < s + i → kc (b q) = 1) → 0 ≤ N32 (wd b s i) ∧ N32 (wd b s i) ≤ B32 i
  | 0, _ => ⟨Int.le_refl _, Int.le_refl _⟩
  | i + 1, h => by
    have ih := wd_rng (b := b) (s := s) i (fun q h1 h2 => h q h1 (by omega))
    have h1 := kc_1.mp (h (s + i) (by omega) (by omega))
    show 0 ≤ N32 (wd b s i) * 32 + (b (s + i) - 96) ∧ N32 (wd b s i) * 32 + (b (s + i) - 96) ≤ B32 i * 32 + 26
    omega
theorem rv_w {b : Int → Int} {s : Int} : ∀ i : Nat, i ≤ 8 → (∀ q, s ≤ q → q < s + i → kc (b q) = 1) → rv b s 1 i = N32 (wd b s i)
  | 0, _, _ => rfl
  | i + 1, hi, h => by
    have ih := rv_w (b := b) (s := s) i (by omega) (fun q h1 h2 => h q h1 (by omega))
    have h1 := kc_1.mp (h (s + i) (by omega) (by omega))
    have h2 := wd_rng (b := b) (s := s) i (fun q h1 h2 => h q h1 (by omega))
    have h3 := B32_8 ⟨i, by omega⟩
    dsimp only at h3
    show w64 (w64 (rv b s 1 i * (if (1 : Int) = 1 then 32 else 10)) + (if (1 : Int) = 1 then w32 (w32 (b (s + i) - 97) + 1) else w32 (b (s + i) - 48))) = N32 (wd b s i) * 32 + (b (s + i) - 96)
    rw [if_pos rfl, if_pos rfl, ih, w64_id (x := N32 (wd b s i) * 32) (by omega) (by omega), w32_id (x := b (s + i) - 97) (by omega) (by omega), w32_id (by omega) (by omega), w64_id (by omega) (by omega)]
    omega
theorem v10_rng {b : Int → Int} {s : Int} : ∀ i : Nat, i ≤ 3 → (∀ q, s ≤ q → q < s + i → kc (b q) = 2) → 0 ≤ v10 b s i ∧ v10 b s i ≤ (if i = 0 then 0 else if i = 1 then 9 else if i = 2 then 99 else 999)
  | 0, _, _ => ⟨Int.le_refl _, Int.le_refl _⟩
  | i + 1, hi, h => by
    have ih := v10_rng (b := b) (s := s) i (by omega) (fun q h1 h2 => h q h1 (by omega))
    have h1 := kc_2.mp (h (s + i) (by omega) (by omega))
    show 0 ≤ v10 b s i * 10 + (b (s + i) - 48) ∧ v10 b s i * 10 + (b (s + i) - 48) ≤ _
    have : i = 0 ∨ i = 1 ∨ i = 2 := by omega
    rcases this with rfl | rfl | rfl <;> simp only [Nat.reduceAdd, Nat.reduceEqDiff, ↓reduceIte] at ih ⊢ <;> omega
theorem rv_v {b : Int → Int} {s : Int} : ∀ i : Nat, i ≤ 3 → (∀ q, s ≤ q → q < s + i → kc (b q) = 2) → rv b s 2 i = v10 b s i
  | 0, _, _ => rfl
  | i + 1, hi, h => by
    have ih := rv_v (b := b) (s := s) i (by omega) (fun q h1 h2 => h q h1 (by omega))
    have h1 := kc_2.mp (h (s + i) (by omega) (by omega))
    have h2 := v10_rng (b := b) (s := s) i (by omega) (fun q h1 h2 => h q h1 (by omega))
    have h3 : v10 b s i ≤ 999 := by
      have := h2.2
      (repeat' split at this) <;> omega
    show w64 (w64 (rv b s 2 i * (if (2 : Int) = 1 then 32 else 10)) + (if (2 : Int) = 1 then w32 (w32 (b (s + i) - 97) + 1) else w32 (b (s + i) - 48))) = v10 b s i * 10 + (b (s + i) - 48)
    rw [if_neg (by decide), if_neg (by decide), ih, w64_id (x := v10 b s i * 10) (by omega) (by omega), w32_id (x := b (s + i) - 48) (by omega) (by omega), w64_id (by omega) (by omega)]

theorem S_kindOf {x : Int} {nx : Nat} {h r : PF} {s : Int → Int} {Q : PO → PY → Nat → PC → Prop} : Wp 80 0 [some (pI x)] [] LY nx (h, r, s) Q ↔ Q (Sum.inl (some (pI (kc x)))) LY nx (h, r, s) := by
  have hx : (97 ≤ x ∧ x ≤ 122) ∨ (48 ≤ x ∧ x ≤ 57) ∨ (x = 32) ∨ (x = 10) ∨ (x = 59) ∨ (x < 10) ∨ (10 < x ∧ x < 32) ∨ (32 < x ∧ x < 48) ∨ (x = 58) ∨ (59 < x ∧ x < 97) ∨ (122 < x) := by omega
  rcases hx with hx | hx | hx | hx | hx | hx | hx | hx | hx | hx | hx
  · simp (disch := first | assumption | omega) only [st_X6_kindOf, ↓if_pos, ↓if_neg, if_pos, if_neg, ↓reduceIte, true_and, and_true, false_and, and_false, true_or, or_true, false_or, or_false, w32_id, Kv, Kn, fup_s, fup_a, fup_k, fup_fup, Int.reduceAdd, Int.reduceSub, Int.reduceMul, Int.reduceNeg, kc]
  · simp (disch := first | assumption | omega) only [st_X6_kindOf, ↓if_pos, ↓if_neg, if_pos, if_neg, ↓reduceIte, true_and, and_true, false_and, and_false, true_or, or_true, false_or, or_false, w32_id, Kv, Kn, fup_s, fup_a, fup_k, fup_fup, Int.reduceAdd, Int.reduceSub, Int.reduceMul, Int.reduceNeg, kc]
  · simp (disch := first | assumption | omega) only [st_X6_kindOf, ↓if_pos, ↓if_neg, if_pos, if_neg, ↓reduceIte, true_and, and_true, false_and, and_false, true_or, or_true, false_or, or_false, w32_id, Kv, Kn, fup_s, fup_a, fup_k, fup_fup, Int.reduceAdd, Int.reduceSub, Int.reduceMul, Int.reduceNeg, kc]
  · simp (disch := first | assumption | omega) only [st_X6_kindOf, ↓if_pos, ↓if_neg, if_pos, if_neg, ↓reduceIte, true_and, and_true, false_and, and_false, true_or, or_true, false_or, or_false, w32_id, Kv, Kn, fup_s, fup_a, fup_k, fup_fup, Int.reduceAdd, Int.reduceSub, Int.reduceMul, Int.reduceNeg, kc]
  · simp (disch := first | assumption | omega) only [st_X6_kindOf, ↓if_pos, ↓if_neg, if_pos, if_neg, ↓reduceIte, true_and, and_true, false_and, and_false, true_or, or_true, false_or, or_false, w32_id, Kv, Kn, fup_s, fup_a, fup_k, fup_fup, Int.reduceAdd, Int.reduceSub, Int.reduceMul, Int.reduceNeg, kc]
  · simp (disch := first | assumption | omega) only [st_X6_kindOf, ↓if_pos, ↓if_neg, if_pos, if_neg, ↓reduceIte, true_and, and_true, false_and, and_false, true_or, or_true, false_or, or_false, w32_id, Kv, Kn, fup_s, fup_a, fup_k, fup_fup, Int.reduceAdd, Int.reduceSub, Int.reduceMul, Int.reduceNeg, kc]
  · simp (disch := first | assumption | omega) only [st_X6_kindOf, ↓if_pos, ↓if_neg, if_pos, if_neg, ↓reduceIte, true_and, and_true, false_and, and_false, true_or, or_true, false_or, or_false, w32_id, Kv, Kn, fup_s, fup_a, fup_k, fup_fup, Int.reduceAdd, Int.reduceSub, Int.reduceMul, Int.reduceNeg, kc]
  · simp (disch := first | assumption | omega) only [st_X6_kindOf, ↓if_pos, ↓if_neg, if_pos, if_neg, ↓reduceIte, true_and, and_true, false_and, and_false, true_or, or_true, false_or, or_false, w32_id, Kv, Kn, fup_s, fup_a, fup_k, fup_fup, Int.reduceAdd, Int.reduceSub, Int.reduceMul, Int.reduceNeg, kc]
  · simp (disch := first | assumption | omega) only [st_X6_kindOf, ↓if_pos, ↓if_neg, if_pos, if_neg, ↓reduceIte, true_and, and_true, false_and, and_false, true_or, or_true, false_or, or_false, w32_id, Kv, Kn, fup_s, fup_a, fup_k, fup_fup, Int.reduceAdd, Int.reduceSub, Int.reduceMul, Int.reduceNeg, kc]
  · simp (disch := first | assumption | omega) only [st_X6_kindOf, ↓if_pos, ↓if_neg, if_pos, if_neg, ↓reduceIte, true_and, and_true, false_and, and_false, true_or, or_true, false_or, or_false, w32_id, Kv, Kn, fup_s, fup_a, fup_k, fup_fup, Int.reduceAdd, Int.reduceSub, Int.reduceMul, Int.reduceNeg, kc]
  · simp (disch := first | assumption | omega) only [st_X6_kindOf, ↓if_pos, ↓if_neg, if_pos, if_neg, ↓reduceIte, true_and, and_true, false_and, and_false, true_or, or_true, false_or, or_false, w32_id, Kv, Kn, fup_s, fup_a, fup_k, fup_fup, Int.reduceAdd, Int.reduceSub, Int.reduceMul, Int.reduceNeg, kc]
theorem S_add {k1 i1 d1 : Int} {nx : Nat} {h r : PF} {s : Int → Int} {Q : PO → PY → Nat → PC → Prop} (hW : WFr r) (h0 : 0 ≤ h 4 3) (h1 : h 4 3 < 601) : Wp 78 0 [some (pR 4), some (pI k1), some (pI i1), some (pI d1)] [] LY nx (h, r, s) Q ↔ Q (Sum.inl none) LY nx (fup (fup (fup (fup h 5 (h 4 3) (w8 (w8 k1))) 6 (h 4 3) i1) 7 (h 4 3) d1) 4 3 (h 4 3 + 1), r, s) := by
  simp (disch := first | assumption | omega) only [st_X6_add, ↓if_pos, ↓if_neg, if_pos, if_neg, ↓reduceIte, true_and, and_true, false_and, and_false, true_or, or_true, false_or, or_false, w32_id, Kv, Kn, fup_s, fup_a, fup_k, fup_fup, Int.reduceAdd, Int.reduceSub, Int.reduceMul, Int.reduceNeg]
/-- the class's rows of tokens: all that end ahead of i, and the one under way -/
def Done (h : PF) (b : Int → Int) (n : Int) (c : Nat) : Prop := ∀ j : Nat, j < c → h 5 j = tK b n (tP b n j) ∧ h 6 j = tS b n (tP b n j) ∧ tK b n (tP b n j) ≠ 0 ∧ (kc (b (tS b n (tP b n j))) = 1 ∨ kc (b (tS b n (tP b n j))) = 2 → h 7 j = rv b (tS b n (tP b n j)) (kc (b (tS b n (tP b n j)))) (tE b n (tP b n j) - tS b n (tP b n j)).toNat)
def TOKS (h : PF) (b : Int → Int) (n : Int) : Prop := ∃ J : Nat, h 4 3 = J + 1 ∧ (J : Int) ≤ 600 ∧ tK b n (tP b n J) = 0 ∧ h 5 J = 0 ∧ h 6 J = n ∧ Done h b n J
theorem done_up {h H : PF} {b : Int → Int} {n : Int} {c : Nat} (hD : Done h b n c) (h5 : ∀ j : Nat, j < c → H 5 j = h 5 j) (h6 : ∀ j : Nat, j < c → H 6 j = h 6 j) (h7 : ∀ j : Nat, j < c → H 7 j = h 7 j) : Done H b n c := fun j hj => by
  rw [h5 j hj, h6 j hj, h7 j hj]
  exact hD j hj
theorem C_find {n : Int} {b : Int → Int} {nx : Nat} {h r : PF} {s : Int → Int} {Q : PO → PY → Nat → PC → Prop} (hW : WFr r) (hn : 0 ≤ n) (hn2 : n ≤ 600) (hb : ∀ k, 0 ≤ k → k < n → h 3 k = b k ∧ -128 ≤ b k ∧ b k ≤ 127) (K : ∀ h' : PF, (∀ a, a < 4 ∨ 7 < a → h' a = h a) → TOKS h' b n → Q (Sum.inl none) LY nx (h', r, s)) : Wp 73 0 [some (pR 4), some (pR 3), some (pI n), none, none, none] [] LY nx (h, r, s) Q := by
  simp (disch := first | assumption | omega) only [st_X6_find, ↓if_pos, ↓if_neg, if_pos, if_neg, ↓reduceIte, true_and, and_true, false_and, and_false, true_or, or_true, false_or, or_false, w32_id, Kv, Kn, fup_s, fup_a, fup_k, fup_fup, Int.reduceAdd, Int.reduceSub, Int.reduceMul, Int.reduceNeg]
  refine loopW (Inv := fun i L H R => ∃ (bf : Int) (x5 : Option PV) (c : Nat), L = [some (pR 4), some (pR 3), some (pI n), some (pI bf), some (pI i), x5] ∧ R = r ∧ (∀ a, a < 4 ∨ 7 < a → H a = h a) ∧ Done H b n c ∧ ((H 4 3 = c ∧ (c : Int) ≤ i ∧ tP b n c ≤ i ∧ ad b n 5 i = tS b n (tP b n c) ∧ (bf = 1 ∨ bf = 2 → i < n → kc (b i) ≠ bf)) ∨ (H 4 3 = c + 1 ∧ (c : Int) < i ∧ tS b n (tP b n c) < i ∧ i < tE b n (tP b n c) ∧ (bf = 1 ∨ bf = 2) ∧ kc (b (tS b n (tP b n c))) = bf ∧ ad b n bf i = tE b n (tP b n c) ∧ H 5 c = (if (if bf = 1 then 8 else 3) < i - tS b n (tP b n c) then 4 else bf) ∧ H 6 c = tS b n (tP b n c) ∧ H 7 c = rv b (tS b n (tP b n c)) bf (i - tS b n (tP b n c)).toNat))) (a := 0) (n := n) (by omega) ?_ ?_ _ _ _ ⟨5, none, 0, rfl, rfl, fun a ha => fup_r (by omega), fun j hj => absurd hj (by omega), Or.inl ⟨by rw [fup_s]; rfl, Int.le_refl _, Int.le_refl _, rfl, fun z => by omega⟩⟩
  · rintro i L H R hi hi2 ⟨bf, x5, c, rfl, rfl, hf, hD, hAB⟩ hK
    have e3 : H 3 = h 3 := hf 3 (by omega)
    have hbi := hb i hi hi2
    have e3i : h 3 i = b i := hbi.1
    have hkr := kc_rng (x := b i)
    rw [sh_X6_find_10]
    rcases hAB with ⟨hA1, hA0, hA2, hA3, hA4⟩ | ⟨hB1, hB0, hB2, hB3, hB4, hB5, hB6, hB7, hB8, hB9⟩
    · by_cases h5 : kc (b i) = 5
      · have hKK := hK _ H _ ⟨5, some (pI 5), c, rfl, rfl, hf, hD, Or.inl ⟨hA1, by omega, by omega, by rw [← ad_go hi2 h5]; exact hA3, fun z => by omega⟩⟩
        have hbf : ¬ (kc (b i) = bf ∧ (bf = 1 ∨ bf = 2)) := fun z => by omega
        by_cases hb5 : bf = 5
        · subst hb5
          simp (disch := first | assumption | omega) only [st_X6_find, ↓if_pos, ↓if_neg, if_pos, if_neg, ↓reduceIte, true_and, and_true, false_and, and_false, true_or, or_true, false_or, or_false, w32_id, Kv, Kn, fup_s, fup_a, fup_k, fup_fup, Int.reduceAdd, Int.reduceSub, Int.reduceMul, Int.reduceNeg, e3, e3i, S_kindOf, h5]
          exact hKK
        · skip
          simp (disch := first | assumption | omega) only [st_X6_find, ↓if_pos, ↓if_neg, if_pos, if_neg, ↓reduceIte, true_and, and_true, false_and, and_false, true_or, or_true, false_or, or_false, w32_id, Kv, Kn, fup_s, fup_a, fup_k, fup_fup, Int.reduceAdd, Int.reduceSub, Int.reduceMul, Int.reduceNeg, e3, e3i, S_kindOf, h5]
          exact hKK
      · have hs : ad b n 5 i = i := ad_stop (Or.inr h5)
        rw [hs] at hA3
        have hne : ¬ n ≤ tS b n (tP b n c) := by omega
        have hP1 : tP b n (c + 1) = tE b n (tP b n c) := rfl
        by_cases h12 : kc (b i) = 1 ∨ kc (b i) = 2
        · have hext := hA4
          have hE : tE b n (tP b n c) = ad b n (kc (b i)) (i + 1) := by
            unfold tE
            rw [if_neg hne, ← hA3, if_pos h12, ad_go hi2 rfl]
          have hEr := ad_rng (b := b) (k := kc (b i)) (show i + 1 ≤ n by omega)
          have hbf : kc (b i) ≠ bf := fun z => hext (by omega) hi2 z
          have hrv : ∀ d : Int, d = (if kc (b i) = 1 then w32 (w32 (b i - 97) + 1) else w32 (b i - 48)) → rv b i (kc (b i)) 1 = d := by
            intro d hd
            show w64 (w64 (0 * _) + (if kc (b i) = 1 then w32 (w32 (b (i + ((0 : Nat) : Int)) - 97) + 1) else w32 (b (i + ((0 : Nat) : Int)) - 48))) = d
            rw [show i + ((0 : Nat) : Int) = i from by omega, ← hd, Int.zero_mul, w64_id (x := 0) (by omega) (by omega), Int.zero_add]
            have : -1000 ≤ d ∧ d ≤ 1000 := by
              rw [hd]
              split
              · rw [w32_id (x := b i - 97) (by omega) (by omega), w32_id (by omega) (by omega)]; omega
              · rw [w32_id (by omega) (by omega)]; omega
            exact w64_id (by omega) (by omega)
          have fin : ∀ (d : Int) (x5 : Option PV), d = (if kc (b i) = 1 then w32 (w32 (b i - 97) + 1) else w32 (b i - 48)) → Wp 73 10 [some (pR 4), some (pR 3), some (pI n), some (pI (kc (b i))), some (pI (i + 1)), x5] [] LY nx (fup (fup (fup (fup H 5 (H 4 3) (w8 (w8 (kc (b i))))) 6 (H 4 3) i) 7 (H 4 3) d) 4 3 (H 4 3 + 1), R, s) Q := by
            intro d x5 hd
            have hw : w8 (w8 (kc (b i))) = kc (b i) := by rw [w8_id (x := kc (b i)) (by omega) (by omega), w8_id (by omega) (by omega)]
            rw [hw]
            refine hK _ _ _ ?_
            by_cases hEi : tE b n (tP b n c) = i + 1
            · refine ⟨kc (b i), x5, c + 1, rfl, rfl, fun a ha => by rw [fup_r (by omega), fup_r (by omega), fup_r (by omega), fup_r (by omega)]; exact hf a ha, ?_, Or.inl ⟨by rw [fup_s, hA1]; omega, by omega, by rw [hP1]; omega, ?_, fun _ hin z => ?_⟩⟩
              · intro j hj
                by_cases hjc : j = c
                · subst hjc
                  rw [← hA3]
                  refine ⟨?_, ?_, ?_, fun _ => ?_⟩
                  · rw [fup_a (by omega), fup_a (by omega), fup_a (by omega), hA1, fup_s]
                    unfold tK
                    rw [if_neg hne, ← hA3, hEi]
                    rcases h12 with y | y
                    · rw [y, if_pos rfl, if_neg (by omega)]
                    · rw [y, if_neg (by omega), if_pos rfl, if_neg (by omega)]
                  · rw [fup_a (by omega), fup_a (by omega), hA1, fup_s]
                  · exact fun z => hne (tK_0.mp z)
                  · rw [fup_a (by omega), hA1, fup_s, hEi, show (i + 1 - i).toNat = 1 from by omega]
                    exact (hrv d hd).symm
                · have hjc2 : (j : Int) ≠ c := by omega
                  have := hD j (by omega)
                  rw [fup_a (by omega), fup_a (by omega), fup_a (by omega), fup_k (by omega), fup_a (by omega), fup_a (by omega), fup_k (by omega), fup_a (by omega), fup_a (by omega), fup_k (by omega), fup_a (by omega), fup_a (by omega)]
                  exact this
              · rw [hP1, hEi]; rfl
              · have := hEr.2.2.2 (by rw [← hE, hEi]; exact hin)
                rw [← hE, hEi] at this
                exact this z
            · refine ⟨kc (b i), x5, c, rfl, rfl, fun a ha => by rw [fup_r (by omega), fup_r (by omega), fup_r (by omega), fup_r (by omega)]; exact hf a ha, done_up hD (fun j hj => by rw [fup_a (by omega), fup_a (by omega), fup_a (by omega), fup_k (by omega)]) (fun j hj => by rw [fup_a (by omega), fup_a (by omega), fup_k (by omega), fup_a (by omega)]) (fun j hj => by rw [fup_a (by omega), fup_k (by omega), fup_a (by omega), fup_a (by omega)]), Or.inr ⟨by rw [fup_s, hA1], by omega, by omega, by omega, h12, by rw [← hA3], hE.symm, ?_, ?_, ?_⟩⟩
              · rw [fup_a (by omega), fup_a (by omega), fup_a (by omega), hA1, fup_s, ← hA3]
                rw [if_neg (by split <;> omega)]
              · rw [fup_a (by omega), fup_a (by omega), hA1, fup_s]; exact hA3
              · rw [fup_a (by omega), hA1, fup_s, ← hA3, show (i + 1 - i).toNat = 1 from by omega]
                exact (hrv d hd).symm
          have h43 : 0 ≤ H 4 3 ∧ H 4 3 < 601 := by omega
          rcases h12 with y | y
          · have f1 := fun x5 => fin (w32 (w32 (b i - 97) + 1)) x5 (by rw [y, if_pos rfl])
            rw [y] at f1
            have hbf1 : bf ≠ 1 := fun z => hbf (by omega)
            by_cases hb2 : bf = 2
            all_goals
              (simp (disch := first | assumption | omega) only [st_X6_find, ↓if_pos, ↓if_neg, if_pos, if_neg, ↓reduceIte, true_and, and_true, false_and, and_false, true_or, or_true, false_or, or_false, w32_id, Kv, Kn, fup_s, fup_a, fup_k, fup_fup, Int.reduceAdd, Int.reduceSub, Int.reduceMul, Int.reduceNeg, e3, e3i, S_kindOf, y, S_add, st_X6_digitOf] at f1 ⊢
               exact f1 _)
          · have f1 := fun x5 => fin (w32 (b i - 48)) x5 (by rw [y, if_neg (by omega)])
            rw [y] at f1
            have hbf2 : bf ≠ 2 := fun z => hbf (by omega)
            by_cases hb1 : bf = 1
            all_goals
              (simp (disch := first | assumption | omega) only [st_X6_find, ↓if_pos, ↓if_neg, if_pos, if_neg, ↓reduceIte, true_and, and_true, false_and, and_false, true_or, or_true, false_or, or_false, w32_id, Kv, Kn, fup_s, fup_a, fup_k, fup_fup, Int.reduceAdd, Int.reduceSub, Int.reduceMul, Int.reduceNeg, e3, e3i, S_kindOf, y, S_add, st_X6_digitOf] at f1 ⊢
               exact f1 _)
        · have hE : tE b n (tP b n c) = i + 1 := by
            unfold tE
            rw [if_neg hne, ← hA3, if_neg h12]
          have hw : w8 (w8 (kc (b i))) = kc (b i) := by rw [w8_id (x := kc (b i)) (by omega) (by omega), w8_id (by omega) (by omega)]
          have fin : ∀ (x5 : Option PV), Wp 73 10 [some (pR 4), some (pR 3), some (pI n), some (pI (kc (b i))), some (pI (i + 1)), x5] [] LY nx (fup (fup (fup (fup H 5 (H 4 3) (w8 (w8 (kc (b i))))) 6 (H 4 3) i) 7 (H 4 3) 0) 4 3 (H 4 3 + 1), R, s) Q := by
            intro x5
            rw [hw]
            refine hK _ _ _ ⟨kc (b i), x5, c + 1, rfl, rfl, fun a ha => by rw [fup_r (by omega), fup_r (by omega), fup_r (by omega), fup_r (by omega)]; exact hf a ha, ?_, Or.inl ⟨by rw [fup_s, hA1]; omega, by omega, by rw [hP1]; omega, ?_, fun z => absurd z h12⟩⟩
            · intro j hj
              by_cases hjc : j = c
              · subst hjc
                rw [← hA3]
                refine ⟨?_, ?_, ?_, fun z => absurd z h12⟩
                · rw [fup_a (by omega), fup_a (by omega), fup_a (by omega), hA1, fup_s]
                  unfold tK
                  rw [if_neg hne, ← hA3, if_neg (fun z => h12 (Or.inl z)), if_neg (fun z => h12 (Or.inr z))]
                · rw [fup_a (by omega), fup_a (by omega), hA1, fup_s]
                · exact fun z => hne (tK_0.mp z)
              · have hjc2 : (j : Int) ≠ c := by omega
                have := hD j (by omega)
                rw [fup_a (by omega), fup_a (by omega), fup_a (by omega), fup_k (by omega), fup_a (by omega), fup_a (by omega), fup_k (by omega), fup_a (by omega), fup_a (by omega), fup_k (by omega), fup_a (by omega), fup_a (by omega)]
                exact this
            · rw [hP1, hE]; rfl
          have h43 : 0 ≤ H 4 3 ∧ H 4 3 < 601 := by omega
          have hk34 : kc (b i) = 3 ∨ kc (b i) = 4 := by omega
          rcases hk34 with y | y
          all_goals
            rw [y] at fin
            by_cases hbb : kc (b i) = bf
            all_goals
              rw [y] at hbb
              (simp (disch := first | assumption | omega) only [st_X6_find, ↓if_pos, ↓if_neg, if_pos, if_neg, ↓reduceIte, true_and, and_true, false_and, and_false, true_or, or_true, false_or, or_false, w32_id, Kv, Kn, fup_s, fup_a, fup_k, fup_fup, Int.reduceAdd, Int.reduceSub, Int.reduceMul, Int.reduceNeg, e3, e3i, S_kindOf, y, S_add, st_X6_digitOf] at fin ⊢
               exact fin _)
    · have hP0 := tP_rng (b := b) hn c
      have hsr := tS_rng (b := b) (tP_rng (b := b) hn c).2
      have hEr := tE_rng (b := b) (tP_rng (b := b) hn c).2
      have hki : kc (b i) = bf := by
        have hE : tE b n (tP b n c) = ad b n bf (tS b n (tP b n c)) := by
          unfold tE
          rw [if_neg (by omega), if_pos (by rw [hB5]; exact hB4), hB5]
        have := (ad_rng (b := b) (k := bf) hsr.2).2.2.1 i (by omega) (by rw [← hE]; exact hB3)
        exact this
      have hP1 : tP b n (c + 1) = tE b n (tP b n c) := rfl
      have hgo := ad_go hi2 hki
      rw [hB6] at hgo
      have hnx := ad_rng (b := b) (k := bf) (show i + 1 ≤ n by omega)
      have esub : (i + 1 - tS b n (tP b n c)).toNat = (i - tS b n (tP b n c)).toNat + 1 := by omega
      have eat : tS b n (tP b n c) + (((i - tS b n (tP b n c)).toNat : Nat) : Int) = i := by omega
      have hrv : rv b (tS b n (tP b n c)) bf (i + 1 - tS b n (tP b n c)).toNat = w64 (w64 (rv b (tS b n (tP b n c)) bf (i - tS b n (tP b n c)).toNat * (if bf = 1 then 32 else 10)) + (if bf = 1 then w32 (w32 (b i - 97) + 1) else w32 (b i - 48))) := by
        rw [esub]
        show w64 (w64 (rv b (tS b n (tP b n c)) bf (i - tS b n (tP b n c)).toNat * (if bf = 1 then 32 else 10)) + (if bf = 1 then w32 (w32 (b (tS b n (tP b n c) + (((i - tS b n (tP b n c)).toNat : Nat) : Int)) - 97) + 1) else w32 (b (tS b n (tP b n c) + (((i - tS b n (tP b n c)).toNat : Nat) : Int)) - 48))) = _
        rw [eat]
      have fin : ∀ (H' : PF) (x5 : Option PV), (∀ a, a < 4 ∨ 7 < a → H' a = h a) → Done H' b n c → H' 4 3 = c + 1 → H' 5 c = (if (if bf = 1 then 8 else 3) < i + 1 - tS b n (tP b n c) then 4 else bf) → H' 6 c = tS b n (tP b n c) → H' 7 c = rv b (tS b n (tP b n c)) bf (i + 1 - tS b n (tP b n c)).toNat → Wp 73 10 [some (pR 4), some (pR 3), some (pI n), some (pI bf), some (pI (i + 1)), x5] [] LY nx (H', R, s) Q := by
        intro H' x5 g1 g2 g3 g4 g5 g6
        refine hK _ H' _ ?_
        by_cases hEi : tE b n (tP b n c) = i + 1
        · refine ⟨bf, x5, c + 1, rfl, rfl, g1, ?_, Or.inl ⟨by rw [g3]; omega, by omega, by rw [hP1]; omega, by rw [hP1, hEi]; rfl, fun _ hin z => ?_⟩⟩
          · intro j hj
            by_cases hjc : j = c
            · subst hjc
              refine ⟨?_, g5, fun z => absurd (tK_0.mp z) (by omega), fun _ => ?_⟩
              · rw [g4]
                unfold tK
                rw [if_neg (show ¬ n ≤ tS b n (tP b n j) by omega), hB5, hEi]
                rcases hB4 with y | y <;> simp only [y, ↓reduceIte, Int.reduceEq]
              · rw [g6, hB5, hEi]
            · exact g2 j (by omega)
          · have := hnx.2.2.2 (by omega)
            rw [← hgo, hEi] at this
            exact this z
        · exact ⟨bf, x5, c, rfl, rfl, g1, g2, Or.inr ⟨g3, by omega, by omega, by omega, hB4, hB5, hgo.symm, g4, g5, g6⟩⟩
      have h43 : 0 ≤ H 4 3 - 1 := by omega
      have ec : H 4 3 - 1 = c := by omega
      have ec2 : (c : Int) + 1 - 1 = c := by omega
      have hc600 : (c : Int) < 601 := by omega
      have hc0 : (0 : Int) ≤ c := by omega
      rcases hB4 with y | y
      · subst y
        simp only [↓reduceIte, Int.reduceEq] at hB7 hrv
        by_cases hl : i - tS b n (tP b n c) < 8
        · have f1 := fun x5 => fin (fup H 7 c (w64 (w64 (rv b (tS b n (tP b n c)) 1 (i - tS b n (tP b n c)).toNat * 32) + w32 (w32 (b i - 97) + 1)))) x5 (fun a ha => by rw [fup_r (by omega)]; exact hf a ha) (done_up hD (fun j hj => fup_a (by omega)) (fun j hj => fup_a (by omega)) (fun j hj => fup_k (by omega))) (by rw [fup_a (by omega)]; exact hB1) (by rw [fup_a (by omega), hB7]; simp only [↓reduceIte, Int.reduceEq]; rw [if_neg (by omega), if_neg (by omega)]) (by rw [fup_a (by omega)]; exact hB8) (by rw [fup_s, hrv])
          (simp (disch := first | assumption | omega) only [st_X6_find, ↓if_pos, ↓if_neg, if_pos, if_neg, ↓reduceIte, true_and, and_true, false_and, and_false, true_or, or_true, false_or, or_false, w32_id, Kv, Kn, fup_s, fup_a, fup_k, fup_fup, Int.reduceAdd, Int.reduceSub, Int.reduceMul, Int.reduceNeg, e3, e3i, S_kindOf, hki, st_X6_lengthen, st_X6_baseOf, st_X6_digitOf, hB1, ec2, hB8, hB9] at f1 ⊢
           exact f1 _)
        · have f1 := fun x5 => fin (fup (fup H 7 c (w64 (w64 (rv b (tS b n (tP b n c)) 1 (i - tS b n (tP b n c)).toNat * 32) + w32 (w32 (b i - 97) + 1)))) 5 c (w8 4)) x5 (fun a ha => by rw [fup_r (by omega), fup_r (by omega)]; exact hf a ha) (done_up hD (fun j hj => by rw [fup_k (by omega), fup_a (by omega)]) (fun j hj => by rw [fup_a (by omega), fup_a (by omega)]) (fun j hj => by rw [fup_a (by omega), fup_k (by omega)])) (by rw [fup_a (by omega), fup_a (by omega)]; exact hB1) (by rw [fup_s]; simp only [↓reduceIte, Int.reduceEq]; rw [if_pos (by omega), w8_id (by omega) (by omega)]) (by rw [fup_a (by omega), fup_a (by omega)]; exact hB8) (by rw [fup_a (by omega), fup_s, hrv])
          (simp (disch := first | assumption | omega) only [st_X6_find, ↓if_pos, ↓if_neg, if_pos, if_neg, ↓reduceIte, true_and, and_true, false_and, and_false, true_or, or_true, false_or, or_false, w32_id, Kv, Kn, fup_s, fup_a, fup_k, fup_fup, Int.reduceAdd, Int.reduceSub, Int.reduceMul, Int.reduceNeg, e3, e3i, S_kindOf, hki, st_X6_lengthen, st_X6_baseOf, st_X6_digitOf, hB1, ec2, hB8, hB9] at f1 ⊢
           exact f1 _)
      · subst y
        simp only [↓reduceIte, Int.reduceEq] at hB7 hrv
        by_cases hl : i - tS b n (tP b n c) < 3
        · have f1 := fun x5 => fin (fup H 7 c (w64 (w64 (rv b (tS b n (tP b n c)) 2 (i - tS b n (tP b n c)).toNat * 10) + w32 (b i - 48)))) x5 (fun a ha => by rw [fup_r (by omega)]; exact hf a ha) (done_up hD (fun j hj => fup_a (by omega)) (fun j hj => fup_a (by omega)) (fun j hj => fup_k (by omega))) (by rw [fup_a (by omega)]; exact hB1) (by rw [fup_a (by omega), hB7]; simp only [↓reduceIte, Int.reduceEq]; rw [if_neg (by omega), if_neg (by omega)]) (by rw [fup_a (by omega)]; exact hB8) (by rw [fup_s, hrv])
          (simp (disch := first | assumption | omega) only [st_X6_find, ↓if_pos, ↓if_neg, if_pos, if_neg, ↓reduceIte, true_and, and_true, false_and, and_false, true_or, or_true, false_or, or_false, w32_id, Kv, Kn, fup_s, fup_a, fup_k, fup_fup, Int.reduceAdd, Int.reduceSub, Int.reduceMul, Int.reduceNeg, e3, e3i, S_kindOf, hki, st_X6_lengthen, st_X6_baseOf, st_X6_digitOf, hB1, ec2, hB8, hB9] at f1 ⊢
           exact f1 _)
        · have f1 := fun x5 => fin (fup (fup H 7 c (w64 (w64 (rv b (tS b n (tP b n c)) 2 (i - tS b n (tP b n c)).toNat * 10) + w32 (b i - 48)))) 5 c (w8 4)) x5 (fun a ha => by rw [fup_r (by omega), fup_r (by omega)]; exact hf a ha) (done_up hD (fun j hj => by rw [fup_k (by omega), fup_a (by omega)]) (fun j hj => by rw [fup_a (by omega), fup_a (by omega)]) (fun j hj => by rw [fup_a (by omega), fup_k (by omega)])) (by rw [fup_a (by omega), fup_a (by omega)]; exact hB1) (by rw [fup_s]; simp only [↓reduceIte, Int.reduceEq]; rw [if_pos (by omega), w8_id (by omega) (by omega)]) (by rw [fup_a (by omega), fup_a (by omega)]; exact hB8) (by rw [fup_a (by omega), fup_s, hrv])
          (simp (disch := first | assumption | omega) only [st_X6_find, ↓if_pos, ↓if_neg, if_pos, if_neg, ↓reduceIte, true_and, and_true, false_and, and_false, true_or, or_true, false_or, or_false, w32_id, Kv, Kn, fup_s, fup_a, fup_k, fup_fup, Int.reduceAdd, Int.reduceSub, Int.reduceMul, Int.reduceNeg, e3, e3i, S_kindOf, hki, st_X6_lengthen, st_X6_baseOf, st_X6_digitOf, hB1, ec2, hB8, hB9] at f1 ⊢
           exact f1 _)
  · rintro L H R ⟨bf, x5, c, rfl, rfl, hf, hD, hAB⟩
    have e3 : H 3 = h 3 := hf 3 (by omega)
    have hsr := tS_rng (b := b) (tP_rng (b := b) hn c).2
    have hEr := tE_rng (b := b) (tP_rng (b := b) hn c).2
    rcases hAB with ⟨hA1, hA0, hA2, hA3, hA4⟩ | ⟨hB1, hB0, hB2, hB3, hB4, hB5, hB6, hB7, hB8, hB9⟩
    · have hs : ad b n 5 n = n := ad_stop (Or.inl (Int.le_refl _))
      rw [hs] at hA3
      have h43 : 0 ≤ H 4 3 ∧ H 4 3 < 601 := by omega
      have hw : w8 (w8 0) = 0 := by rw [w8_id (x := 0) (by omega) (by omega), w8_id (by omega) (by omega)]
      have hKK := K (fup (fup (fup (fup H 5 (H 4 3) (w8 (w8 0))) 6 (H 4 3) n) 7 (H 4 3) 0) 4 3 (H 4 3 + 1)) (fun a ha => by rw [fup_r (by omega), fup_r (by omega), fup_r (by omega), fup_r (by omega)]; exact hf a ha) ⟨c, by rw [fup_s, hA1], by omega, tK_0.mpr (by omega), by rw [fup_a (by omega), fup_a (by omega), fup_a (by omega), hA1, fup_s, hw], by rw [fup_a (by omega), fup_a (by omega), hA1, fup_s], done_up hD (fun j hj => by rw [fup_a (by omega), fup_a (by omega), fup_a (by omega), fup_k (by omega)]) (fun j hj => by rw [fup_a (by omega), fup_a (by omega), fup_k (by omega), fup_a (by omega)]) (fun j hj => by rw [fup_a (by omega), fup_k (by omega), fup_a (by omega), fup_a (by omega)])⟩
      rw [sh_X6_find_10]
      simp (disch := first | assumption | omega) only [st_X6_find, ↓if_pos, ↓if_neg, if_pos, if_neg, ↓reduceIte, true_and, and_true, false_and, and_false, true_or, or_true, false_or, or_false, w32_id, Kv, Kn, fup_s, fup_a, fup_k, fup_fup, Int.reduceAdd, Int.reduceSub, Int.reduceMul, Int.reduceNeg, S_add]
      exact hKK
    · omega
