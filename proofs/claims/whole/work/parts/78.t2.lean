/-! TEXT, THE REFERENCE: the next token (wb_ rows as the kit's laws have them, for pasting) -/
theorem wb_tb (n : Nat) : (lN n).toBitVec = BitVec.ofNat 64 n := rfl
theorem wb_inj {a b : Int64} (h : a.toBitVec = b.toBitVec) : a = b := Int64.toBitVec_inj.mp h
theorem wb_c : ∀ k, k < 64 → ((nI k).toInt64 &&& 63) = lN k := by decide +kernel
theorem wb_sm : ∀ k, k < 64 → (BitVec.ofNat 64 k).smod 64 = BitVec.ofNat 64 k := by decide +kernel
theorem wb_shl (n : Nat) {k : Nat} (hk : k < 64) : lN n <<< ((nI k).toInt64 &&& 63) = lN (n * 2 ^ k) := by
  rw [wb_c k hk]
  apply wb_inj
  rw [Int64.toBitVec_shiftLeft, wb_tb, wb_tb, wb_tb, wb_sm k hk]
  apply BitVec.eq_of_toNat_eq
  rw [BitVec.shiftLeft_eq', BitVec.toNat_shiftLeft, BitVec.toNat_ofNat, BitVec.toNat_ofNat, BitVec.toNat_ofNat, Nat.mod_eq_of_lt (show k < 2 ^ 64 by omega), Nat.shiftLeft_eq, Nat.mul_mod, Nat.mod_mod, ← Nat.mul_mod]
theorem wb_or {a b : Nat} (ha : a < 2 ^ 64) (hb : b < 2 ^ 64) : lN a ||| lN b = lN (a ||| b) := by
  apply wb_inj
  rw [Int64.toBitVec_or, wb_tb, wb_tb, wb_tb]
  apply BitVec.eq_of_toNat_eq
  rw [BitVec.toNat_or, BitVec.toNat_ofNat, BitVec.toNat_ofNat, BitVec.toNat_ofNat, Nat.mod_eq_of_lt ha, Nat.mod_eq_of_lt hb, Nat.mod_eq_of_lt (Nat.or_lt_two_pow ha hb)]
theorem plor_nat {m k : Nat} (hm : m < 36028797018963968) (hk : k < 256) : plor (plshl (m : Int) 8) (k : Int) = ((m * 256 + k : Nat) : Int) := by
  have e1 : Int64.ofInt (m : Int) = lN m := Int64.ofInt_eq_ofNat
  have e2 : Int64.ofInt (k : Int) = lN k := Int64.ofInt_eq_ofNat
  have e3 : ((Int32.ofInt 8).toInt64 &&& 63) = ((nI 8).toInt64 &&& 63) := by decide +kernel
  have e4 : m * 2 ^ 8 ||| k = m * 256 + k := by
    have := Nat.shiftLeft_add_eq_or_of_lt (i := 8) (show k < 2 ^ 8 by omega) m
    rw [Nat.shiftLeft_eq] at this
    exact this.symm
  unfold plor plshl
  rw [e1, e2, e3, wb_shl m (by omega), Int64.ofInt_toInt, wb_or (by omega) (by omega), e4]
  have e5 : lN (m * 256 + k) = Int64.ofInt ((m * 256 + k : Nat) : Int) := Int64.ofInt_eq_ofNat.symm
  rw [e5, ofI64, w64_id (by omega) (by omega)]
theorem plor_shl {x y : Int} (hx : 0 ≤ x) (hx2 : x < 36028797018963968) (hy : 0 ≤ y) (hy2 : y < 256) : plor (plshl x 8) y = x * 256 + y := by
  have := plor_nat (m := x.toNat) (k := y.toNat) (by omega) (by omega)
  rw [Int.toNat_of_nonneg hx, Int.toNat_of_nonneg hy] at this
  rw [this]
  omega
def N256 : List Int → Int
  | [] => 0
  | d :: t => N256 t * 256 + (d + 96)
def B256 : Nat → Int
  | 0 => 0
  | i + 1 => B256 i * 256 + 122
theorem B256_7 : ∀ i : Fin 8, 0 ≤ B256 i.val ∧ B256 i.val < 36028797018963968 := by decide +kernel
theorem wd_rng256 {b : Int → Int} {s : Int} : ∀ i : Nat, (∀ q, s ≤ q → q < s + i → kc (b q) = 1) → 0 ≤ N256 (wd b s i) ∧ N256 (wd b s i) ≤ B256 i
  | 0, _ => ⟨Int.le_refl _, Int.le_refl _⟩
  | i + 1, h => by
    have ih := wd_rng256 (b := b) (s := s) i (fun q h1 h2 => h q h1 (by omega))
    have h1 := kc_1.mp (h (s + i) (by omega) (by omega))
    show 0 ≤ N256 (wd b s i) * 256 + (b (s + i) - 96 + 96) ∧ N256 (wd b s i) * 256 + (b (s + i) - 96 + 96) ≤ B256 i * 256 + 122
    omega
def ub (x : Int) : Int := if x < 0 then x + 256 else x
theorem ub_256 : ∀ k : Fin 256, pand (((k.val : Nat) : Int) - 128) 255 = ub (((k.val : Nat) : Int) - 128) := by decide +kernel
theorem ub_eq {x : Int} (h : -128 ≤ x) (h2 : x ≤ 127) : pand x 255 = ub x := by
  have := ub_256 ⟨(x + 128).toNat, by omega⟩
  simp only [Int.toNat_of_nonneg (show 0 ≤ x + 128 by omega)] at this
  rw [show x + 128 - 128 = x from by omega] at this
  exact this
theorem ub_rng {x : Int} (h : -128 ≤ x) (h2 : x ≤ 127) : 0 ≤ ub x ∧ ub x ≤ 255 ∧ (ub x < 128 → ub x = x) := by
  unfold ub
  split <;> omega
theorem ub_k {x : Int} (h : -128 ≤ x) (h2 : x ≤ 127) : (kc x = 1 ↔ (97 ≤ ub x ∧ ub x ≤ 122)) ∧ (kc x = 2 ↔ (48 ≤ ub x ∧ ub x ≤ 57)) ∧ (kc x = 3 ↔ ub x = 59) ∧ (kc x = 5 ↔ (ub x = 32 ∨ ub x = 10)) := by
  rw [kc_1, kc_2, kc_3, kc_5]
  unfold ub
  split <;> omega
theorem S_byteAt {n k : Int} {b : Int → Int} {nx : Nat} {h r : PF} {s : Int → Int} {Q : PO → PY → Nat → PC → Prop} (hW : WFr r) (e5 : h 178 5 = n) (hb : ∀ k, 0 ≤ k → k < n → h 181 k = b k ∧ -128 ≤ b k ∧ b k ≤ 127) (hn : n ≤ 600) (hk : 0 ≤ k) : Wp 131 0 [some (pR 178), some (pI k)] [] LY nx (h, r, s) Q ↔ if k < n then Q (Sum.inl (some (pI (ub (b k))))) LY nx (h, r, s) else Q (Sum.inl (some (pI (-1)))) LY nx (h, r, s) := by
  by_cases hc : k < n
  · have h1 := hb k hk hc
    have e1 := h1.1
    have e2 := ub_eq h1.2.1 h1.2.2
    rw [if_pos hc]
    simp (disch := first | assumption | omega) only [st_X8_byteAt, ↓if_pos, ↓if_neg, if_pos, if_neg, ↓reduceIte, true_and, and_true, false_and, and_false, true_or, or_true, false_or, or_false, w32_id, Kv, Kn, fup_s, fup_a, fup_k, fup_fup, Int.reduceAdd, Int.reduceSub, Int.reduceMul, Int.reduceNeg, e5, e1, e2]
  · rw [if_neg hc]
    simp (disch := first | assumption | omega) only [st_X8_byteAt, ↓if_pos, ↓if_neg, if_pos, if_neg, ↓reduceIte, true_and, and_true, false_and, and_false, true_or, or_true, false_or, or_false, w32_id, Kv, Kn, fup_s, fup_a, fup_k, fup_fup, Int.reduceAdd, Int.reduceSub, Int.reduceMul, Int.reduceNeg, e5]
/-- what one step of the reference's reading leaves -/
def AdvK (h h' : PF) (b : Int → Int) (n p : Int) : Prop := (∀ a, a ≠ 178 → h' a = h a) ∧ (∀ k, k < 6 ∨ 10 < k → h' 178 k = h 178 k) ∧ h' 178 6 = tS b n p ∧ h' 178 7 = tE b n p ∧ h' 178 8 = tK b n p ∧ (tK b n p = 2 → h' 178 9 = tV b n p) ∧ (tK b n p = 1 → h' 178 10 = N256 (tW b n p))
theorem C_advance {n p : Int} {b : Int → Int} {nx : Nat} {h r : PF} {s : Int → Int} {Q : PO → PY → Nat → PC → Prop} (hW : WFr r) (e5 : h 178 5 = n) (e7 : h 178 7 = p) (hn : n ≤ 600) (hp : 0 ≤ p) (hp2 : p ≤ n) (hb : ∀ k, 0 ≤ k → k < n → h 181 k = b k ∧ -128 ≤ b k ∧ b k ≤ 127) (K : ∀ h' : PF, AdvK h h' b n p → Q (Sum.inl none) LY nx (h', r, s)) : Wp 132 0 [some (pR 178), none] [] LY nx (h, r, s) Q := by
  have hS := ad_rng (b := b) (n := n) (k := 5) hp2
  refine loopW (Inv := fun i L H R => L = [some (pR 178), none] ∧ R = r ∧ (∀ a, a ≠ 178 → H a = h a) ∧ (∀ k, k ≠ 7 → H 178 k = h 178 k) ∧ H 178 7 = i) (a := p) (n := ad b n 5 p) hS.1 ?_ ?_ _ _ _ ⟨rfl, rfl, fun _ _ => rfl, fun _ _ => rfl, e7⟩
  · rintro i L H R hi hi2 ⟨rfl, rfl, hf, hf7, g7⟩ hK
    have hin : i < n := by omega
    have hbi := hb i (by omega) hin
    have hub := (ub_k hbi.2.1 hbi.2.2).2.2.2.mp (hS.2.2.1 i hi hi2)
    have g5 : H 178 5 = n := by rw [hf7 5 (by omega)]; exact e5
    have hbH : ∀ k, 0 ≤ k → k < n → H 181 k = b k ∧ -128 ≤ b k ∧ b k ≤ 127 := fun k a c => by rw [hf 181 (by omega)]; exact hb k a c
    have hKK := hK _ (fup H 178 7 (i + 1)) _ ⟨rfl, rfl, fun a ha => by rw [fup_r ha]; exact hf a ha, fun k hk => by rw [fup_k hk]; exact hf7 k hk, by rw [fup_s]⟩
    have hi0 : 0 ≤ i := by omega
    rw [sh_X8_advance_0]
    rcases hub with y | y
    · skip
      simp (disch := first | assumption | omega) only [st_X8_advance_0, st_X8_advance_1, st_X8_advance_2, ↓if_pos, ↓if_neg, if_pos, if_neg, ↓reduceIte, true_and, and_true, false_and, and_false, true_or, or_true, false_or, or_false, w32_id, Kv, Kn, fup_s, fup_a, fup_k, fup_fup, Int.reduceAdd, Int.reduceSub, Int.reduceMul, Int.reduceNeg, g7, S_byteAt hW g5 hbH hn, y]
      exact hKK
    · skip
      simp (disch := first | assumption | omega) only [st_X8_advance_0, st_X8_advance_1, st_X8_advance_2, ↓if_pos, ↓if_neg, if_pos, if_neg, ↓reduceIte, true_and, and_true, false_and, and_false, true_or, or_true, false_or, or_false, w32_id, Kv, Kn, fup_s, fup_a, fup_k, fup_fup, Int.reduceAdd, Int.reduceSub, Int.reduceMul, Int.reduceNeg, g7, S_byteAt hW g5 hbH hn, y]
      exact hKK
  · rintro L H R ⟨rfl, rfl, hf, hf7, g7⟩
    have eS : ad b n 5 p = tS b n p := rfl
    rw [eS] at g7 hS
    have g5 : H 178 5 = n := by rw [hf7 5 (by omega)]; exact e5
    have hbH : ∀ k, 0 ≤ k → k < n → H 181 k = b k ∧ -128 ≤ b k ∧ b k ≤ 127 := fun k a c => by rw [hf 181 (by omega)]; exact hb k a c
    have hE := tE_rng (b := b) hp2
    generalize hSe : tS b n p = S at *
    have hS0 : 0 ≤ S := by omega
    rw [sh_X8_advance_0]
    by_cases hSn : n ≤ S
    · have hSe2 : S = n := by omega
      have hKK := K (fup (fup (fup (fup H 178 6 S) 178 9 0) 178 10 0) 178 8 0) ⟨fun a ha => by rw [fup_r ha, fup_r ha, fup_r ha, fup_r ha]; exact hf a ha, fun k hk => by rw [fup_k (by omega), fup_k (by omega), fup_k (by omega), fup_k (by omega)]; exact hf7 k (by omega), by rw [fup_k (by omega), fup_k (by omega), fup_k (by omega), fup_s, hSe], by rw [fup_k (by omega), fup_k (by omega), fup_k (by omega), fup_k (by omega), g7]; unfold tE; rw [if_pos (by omega)]; exact hSe2, by rw [fup_s]; exact (tK_0.mpr (by omega)).symm, fun z => absurd ((tK_0 (b := b) (n := n) (p := p)).mpr (by omega)) (by omega), fun z => absurd ((tK_0 (b := b) (n := n) (p := p)).mpr (by omega)) (by omega)⟩
      simp (disch := first | assumption | omega) only [st_X8_advance_0, st_X8_advance_1, st_X8_advance_2, ↓if_pos, ↓if_neg, if_pos, if_neg, ↓reduceIte, true_and, and_true, false_and, and_false, true_or, or_true, false_or, or_false, w32_id, Kv, Kn, fup_s, fup_a, fup_k, fup_fup, Int.reduceAdd, Int.reduceSub, Int.reduceMul, Int.reduceNeg, g7, S_byteAt hW g5 hbH hn]
      simp (disch := first | assumption | omega) only [st_X8_advance_0, st_X8_advance_1, st_X8_advance_2, ↓if_pos, ↓if_neg, if_pos, if_neg, ↓reduceIte, true_and, and_true, false_and, and_false, true_or, or_true, false_or, or_false, w32_id, Kv, Kn, fup_s, fup_a, fup_k, fup_fup, Int.reduceAdd, Int.reduceSub, Int.reduceMul, Int.reduceNeg, S_byteAt (h := fup (fup (fup H 178 6 S) 178 9 0) 178 10 0) hW (show fup (fup (fup H 178 6 S) 178 9 0) 178 10 0 178 5 = n by rw [fup_k (by omega), fup_k (by omega), fup_k (by omega)]; exact g5) (show ∀ k, 0 ≤ k → k < n → fup (fup (fup H 178 6 S) 178 9 0) 178 10 0 181 k = b k ∧ -128 ≤ b k ∧ b k ≤ 127 from fun k a c => by rw [fup_a (by omega), fup_a (by omega), fup_a (by omega)]; exact hbH k a c) hn, g7]
      exact hKK
    · have hSn2 : S < n := by omega
      have hbS := hb S hS0 hSn2
      have hub := ub_k hbS.2.1 hbS.2.2
      have hur := ub_rng hbS.2.1 hbS.2.2
      have hk5 : kc (b S) ≠ 5 := hS.2.2.2 hSn2
      have hkr := kc_rng (x := b S)
      have hn32 : ub (b S) ≠ 32 := fun z => hk5 (hub.2.2.2.mpr (Or.inl z))
      have hn10 : ub (b S) ≠ 10 := fun z => hk5 (hub.2.2.2.mpr (Or.inr z))
      have hA0 : ∀ a, a ≠ 178 → fup (fup (fup H 178 6 S) 178 9 0) 178 10 0 a = h a := fun a ha => by rw [fup_r ha, fup_r ha, fup_r ha]; exact hf a ha
      have hAk : ∀ k, k ≠ 6 → k ≠ 7 → k ≠ 9 → k ≠ 10 → fup (fup (fup H 178 6 S) 178 9 0) 178 10 0 178 k = h 178 k := fun k z1 z2 z3 z4 => by rw [fup_k z4, fup_k z3, fup_k z1]; exact hf7 k z2
      have hA6 : fup (fup (fup H 178 6 S) 178 9 0) 178 10 0 178 6 = S := by rw [fup_k (by omega), fup_k (by omega), fup_s]
      have hA7 : fup (fup (fup H 178 6 S) 178 9 0) 178 10 0 178 7 = S := by rw [fup_k (by omega), fup_k (by omega), fup_k (by omega)]; exact g7
      have hA9 : fup (fup (fup H 178 6 S) 178 9 0) 178 10 0 178 9 = 0 := by rw [fup_k (by omega), fup_s]
      have hA10 : fup (fup (fup H 178 6 S) 178 9 0) 178 10 0 178 10 = 0 := fup_s
      simp (disch := first | assumption | omega) only [st_X8_advance_0, st_X8_advance_1, st_X8_advance_2, ↓if_pos, ↓if_neg, if_pos, if_neg, ↓reduceIte, true_and, and_true, false_and, and_false, true_or, or_true, false_or, or_false, w32_id, Kv, Kn, fup_s, fup_a, fup_k, fup_fup, Int.reduceAdd, Int.reduceSub, Int.reduceMul, Int.reduceNeg, g7, S_byteAt hW g5 hbH hn]
      generalize fup (fup (fup H 178 6 S) 178 9 0) 178 10 0 = A at *
      have a5 : A 178 5 = n := by rw [hAk 5 (by omega) (by omega) (by omega) (by omega)]; exact e5
      have hbA : ∀ k, 0 ≤ k → k < n → A 181 k = b k ∧ -128 ≤ b k ∧ b k ≤ 127 := fun k a c => by rw [hA0 181 (by omega)]; exact hb k a c
      by_cases h1 : kc (b S) = 1
      · have hu1 := hub.1.mp h1
        have hEd : tE b n p = ad b n 1 S := by
          unfold tE
          rw [hSe, if_neg hSn, if_pos (Or.inl h1), h1]
        have hEr := ad_rng (b := b) (k := 1) hS.2.1
        have hKd : tK b n p = if 8 < tE b n p - S then 4 else 1 := by
          unfold tK
          rw [hSe, if_neg hSn, if_pos h1]
        simp (disch := first | assumption | omega) only [st_X8_advance_0, st_X8_advance_1, st_X8_advance_2, ↓if_pos, ↓if_neg, if_pos, if_neg, ↓reduceIte, true_and, and_true, false_and, and_false, true_or, or_true, false_or, or_false, w32_id, Kv, Kn, fup_s, fup_a, fup_k, fup_fup, Int.reduceAdd, Int.reduceSub, Int.reduceMul, Int.reduceNeg, S_byteAt hW a5 hbA hn, hA7, S_within]
        refine loopW (Inv := fun i L H2 R2 => L = [some (pR 178), some (pI (ub (b S)))] ∧ R2 = R ∧ (∀ a, a ≠ 178 → H2 a = h a) ∧ (∀ k, k < 6 ∨ 10 < k → H2 178 k = h 178 k) ∧ H2 178 6 = S ∧ H2 178 7 = i ∧ H2 178 10 = N256 (wd b S (if i - S < 8 then i - S else 8).toNat)) (a := S) (n := ad b n 1 S) hEr.1 ?_ ?_ _ _ _ ⟨rfl, rfl, hA0, fun k hk => hAk k (by omega) (by omega) (by omega) (by omega), hA6, hA7, by rw [hA10, if_pos (by omega), show (S - S).toNat = 0 from by omega]; rfl⟩
        · rintro i L H2 R2 hi hi2 ⟨rfl, rfl, f1, f2, f6, f7, f10⟩ hK2
          have hin : i < n := by omega
          have hi0 : 0 ≤ i := by omega
          have hbi := hb i hi0 hin
          have hui := (ub_k hbi.2.1 hbi.2.2).1.mp (hEr.2.2.1 i hi hi2)
          have hur2 := ub_rng hbi.2.1 hbi.2.2
          have hub2 : ub (b i) = b i := hur2.2.2 (by omega)
          have q5 : H2 178 5 = n := by rw [f2 5 (by omega)]; exact e5
          have hb2 : ∀ k, 0 ≤ k → k < n → H2 181 k = b k ∧ -128 ≤ b k ∧ b k ≤ 127 := fun k a c => by rw [f1 181 (by omega)]; exact hb k a c
          rw [sh_X8_advance_90]
          by_cases h8 : i - S < 8
          · rw [if_pos h8] at f10
            have hwr := wd_rng256 (b := b) (s := S) (i - S).toNat (fun q z1 z2 => hEr.2.2.1 q z1 (by omega))
            have hB := B256_7 ⟨(i - S).toNat, by omega⟩
            dsimp only at hB
            have hpl : plor (plshl (N256 (wd b S (i - S).toNat)) 8) (b i) = N256 (wd b S (i - S).toNat) * 256 + b i := plor_shl hwr.1 (by omega) (by omega) (by omega)
            have hKK := hK2 _ (fup (fup H2 178 10 (N256 (wd b S (i - S).toNat) * 256 + b i)) 178 7 (i + 1)) _ ⟨rfl, rfl, fun a ha => by rw [fup_r ha, fup_r ha]; exact f1 a ha, fun k hk => by rw [fup_k (by omega), fup_k (by omega)]; exact f2 k hk, by rw [fup_k (by omega), fup_k (by omega)]; exact f6, by rw [fup_s], by
              rw [fup_k (by omega), fup_s]
              have e1 : (if i + 1 - S < 8 then i + 1 - S else 8) = i - S + 1 := by split <;> omega
              rw [e1, show (i - S + 1).toNat = (i - S).toNat + 1 from by omega]
              show _ = N256 (wd b S (i - S).toNat) * 256 + (b (S + (((i - S).toNat : Nat) : Int)) - 96 + 96)
              rw [show S + (((i - S).toNat : Nat) : Int) = i from by omega]
              omega⟩
            simp (disch := first | assumption | omega) only [st_X8_advance_0, st_X8_advance_1, st_X8_advance_2, ↓if_pos, ↓if_neg, if_pos, if_neg, ↓reduceIte, true_and, and_true, false_and, and_false, true_or, or_true, false_or, or_false, w32_id, Kv, Kn, fup_s, fup_a, fup_k, fup_fup, Int.reduceAdd, Int.reduceSub, Int.reduceMul, Int.reduceNeg, S_byteAt hW q5 hb2 hn, f7, f6, f10, S_within, hub2, hpl]
            exact hKK
          · rw [if_neg h8] at f10
            have hKK := hK2 _ (fup (fup H2 178 10 (N256 (wd b S (8 : Int).toNat))) 178 7 (i + 1)) _ ⟨rfl, rfl, fun a ha => by rw [fup_r ha, fup_r ha]; exact f1 a ha, fun k hk => by rw [fup_k (by omega), fup_k (by omega)]; exact f2 k hk, by rw [fup_k (by omega), fup_k (by omega)]; exact f6, by rw [fup_s], by rw [fup_k (by omega), fup_s, if_neg (by omega)]⟩
            simp (disch := first | assumption | omega) only [st_X8_advance_0, st_X8_advance_1, st_X8_advance_2, ↓if_pos, ↓if_neg, if_pos, if_neg, ↓reduceIte, true_and, and_true, false_and, and_false, true_or, or_true, false_or, or_false, w32_id, Kv, Kn, fup_s, fup_a, fup_k, fup_fup, Int.reduceAdd, Int.reduceSub, Int.reduceMul, Int.reduceNeg, S_byteAt hW q5 hb2 hn, f7, f6, f10, S_within, hub2]
            exact hKK
        · rintro L H2 R2 ⟨rfl, rfl, f1, f2, f6, f7, f10⟩
          have q5 : H2 178 5 = n := by rw [f2 5 (by omega)]; exact e5
          have hb2 : ∀ k, 0 ≤ k → k < n → H2 181 k = b k ∧ -128 ≤ b k ∧ b k ≤ 127 := fun k a c => by rw [f1 181 (by omega)]; exact hb k a c
          rw [← hEd] at f7 f10 hEr
          have hE0 : 0 ≤ tE b n p := by omega
          have hKK := K (fup H2 178 8 (tK b n p)) ⟨fun a ha => by rw [fup_r ha]; exact f1 a ha, fun k hk => by rw [fup_k (by omega)]; exact f2 k hk, by rw [fup_k (by omega), f6, hSe], by rw [fup_k (by omega), f7], by rw [fup_s], fun z => by rw [hKd] at z; split at z <;> omega, fun z => by
            rw [hKd] at z
            have h8 : ¬ 8 < tE b n p - S := by intro y; rw [if_pos y] at z; omega
            rw [fup_k (by omega), f10]
            unfold tW
            rw [hSe]
            congr 2
            split <;> omega⟩
          rw [hKd] at hKK
          have hend : tE b n p < n → ¬ (97 ≤ ub (b (tE b n p)) ∧ ub (b (tE b n p)) ≤ 122) := fun z y => hEr.2.2.2 z ((ub_k (hb _ hE0 z).2.1 (hb _ hE0 z).2.2).1.mpr y)
          generalize tE b n p = E at *
          rw [sh_X8_advance_90]
          by_cases hen : E < n
          · have hne := hend hen
            by_cases h8 : 8 < E - S
            · rw [if_pos h8] at hKK
              simp (disch := first | assumption | omega) only [st_X8_advance_0, st_X8_advance_1, st_X8_advance_2, ↓if_pos, ↓if_neg, if_pos, if_neg, ↓reduceIte, true_and, and_true, false_and, and_false, true_or, or_true, false_or, or_false, w32_id, Kv, Kn, fup_s, fup_a, fup_k, fup_fup, Int.reduceAdd, Int.reduceSub, Int.reduceMul, Int.reduceNeg, S_byteAt hW q5 hb2 hn, f7, f6, S_within]
              exact hKK
            · rw [if_neg h8] at hKK
              simp (disch := first | assumption | omega) only [st_X8_advance_0, st_X8_advance_1, st_X8_advance_2, ↓if_pos, ↓if_neg, if_pos, if_neg, ↓reduceIte, true_and, and_true, false_and, and_false, true_or, or_true, false_or, or_false, w32_id, Kv, Kn, fup_s, fup_a, fup_k, fup_fup, Int.reduceAdd, Int.reduceSub, Int.reduceMul, Int.reduceNeg, S_byteAt hW q5 hb2 hn, f7, f6, S_within]
              exact hKK
          · by_cases h8 : 8 < E - S
            · rw [if_pos h8] at hKK
              simp (disch := first | assumption | omega) only [st_X8_advance_0, st_X8_advance_1, st_X8_advance_2, ↓if_pos, ↓if_neg, if_pos, if_neg, ↓reduceIte, true_and, and_true, false_and, and_false, true_or, or_true, false_or, or_false, w32_id, Kv, Kn, fup_s, fup_a, fup_k, fup_fup, Int.reduceAdd, Int.reduceSub, Int.reduceMul, Int.reduceNeg, S_byteAt hW q5 hb2 hn, f7, f6, S_within]
              exact hKK
            · rw [if_neg h8] at hKK
              simp (disch := first | assumption | omega) only [st_X8_advance_0, st_X8_advance_1, st_X8_advance_2, ↓if_pos, ↓if_neg, if_pos, if_neg, ↓reduceIte, true_and, and_true, false_and, and_false, true_or, or_true, false_or, or_false, w32_id, Kv, Kn, fup_s, fup_a, fup_k, fup_fup, Int.reduceAdd, Int.reduceSub, Int.reduceMul, Int.reduceNeg, S_byteAt hW q5 hb2 hn, f7, f6, S_within]
              exact hKK
      · have hnu1 : ¬ (97 ≤ ub (b S) ∧ ub (b S) ≤ 122) := fun z => h1 (hub.1.mpr z)
        by_cases h2 : kc (b S) = 2
        · have hu2 := hub.2.1.mp h2
          have hEd : tE b n p = ad b n 2 S := by
            unfold tE
            rw [hSe, if_neg hSn, if_pos (Or.inr h2), h2]
          have hEr := ad_rng (b := b) (k := 2) hS.2.1
          have hKd : tK b n p = if 3 < tE b n p - S then 4 else 2 := by
            unfold tK
            rw [hSe, if_neg hSn, if_neg h1, if_pos h2]
          simp (disch := first | assumption | omega) only [st_X8_advance_0, st_X8_advance_1, st_X8_advance_2, ↓if_pos, ↓if_neg, if_pos, if_neg, ↓reduceIte, true_and, and_true, false_and, and_false, true_or, or_true, false_or, or_false, w32_id, Kv, Kn, fup_s, fup_a, fup_k, fup_fup, Int.reduceAdd, Int.reduceSub, Int.reduceMul, Int.reduceNeg, S_byteAt hW a5 hbA hn, hA7, S_within]
          refine loopW (Inv := fun i L H2 R2 => L = [some (pR 178), some (pI (ub (b S)))] ∧ R2 = R ∧ (∀ a, a ≠ 178 → H2 a = h a) ∧ (∀ k, k < 6 ∨ 10 < k → H2 178 k = h 178 k) ∧ H2 178 6 = S ∧ H2 178 7 = i ∧ H2 178 9 = v10 b S (if i - S < 3 then i - S else 3).toNat) (a := S) (n := ad b n 2 S) hEr.1 ?_ ?_ _ _ _ ⟨rfl, rfl, hA0, fun k hk => hAk k (by omega) (by omega) (by omega) (by omega), hA6, hA7, by rw [hA9, if_pos (by omega), show (S - S).toNat = 0 from by omega]; rfl⟩
          · rintro i L H2 R2 hi hi2 ⟨rfl, rfl, f1, f2, f6, f7, f9⟩ hK2
            have hin : i < n := by omega
            have hi0 : 0 ≤ i := by omega
            have hbi := hb i hi0 hin
            have hui := (ub_k hbi.2.1 hbi.2.2).2.1.mp (hEr.2.2.1 i hi hi2)
            have hur2 := ub_rng hbi.2.1 hbi.2.2
            have hub2 : ub (b i) = b i := hur2.2.2 (by omega)
            have q5 : H2 178 5 = n := by rw [f2 5 (by omega)]; exact e5
            have hb2 : ∀ k, 0 ≤ k → k < n → H2 181 k = b k ∧ -128 ≤ b k ∧ b k ≤ 127 := fun k a c => by rw [f1 181 (by omega)]; exact hb k a c
            rw [sh_X8_advance_200]
            by_cases h8 : i - S < 3
            · rw [if_pos h8] at f9
              have hwr := v10_rng (b := b) (s := S) (i - S).toNat (by omega) (fun q z1 z2 => hEr.2.2.1 q z1 (by omega))
              have hwr2 : v10 b S (i - S).toNat ≤ 999 := by
                have := hwr.2
                (repeat' split at this) <;> omega
              have hwr0 := hwr.1
              have hKK := hK2 _ (fup (fup H2 178 9 (10 * v10 b S (i - S).toNat + b i - 48)) 178 7 (i + 1)) _ ⟨rfl, rfl, fun a ha => by rw [fup_r ha, fup_r ha]; exact f1 a ha, fun k hk => by rw [fup_k (by omega), fup_k (by omega)]; exact f2 k hk, by rw [fup_k (by omega), fup_k (by omega)]; exact f6, by rw [fup_s], by
                rw [fup_k (by omega), fup_s]
                have e1 : (if i + 1 - S < 3 then i + 1 - S else 3) = i - S + 1 := by split <;> omega
                rw [e1, show (i - S + 1).toNat = (i - S).toNat + 1 from by omega]
                show _ = v10 b S (i - S).toNat * 10 + (b (S + (((i - S).toNat : Nat) : Int)) - 48)
                rw [show S + (((i - S).toNat : Nat) : Int) = i from by omega]
                omega⟩
              simp (disch := first | assumption | omega) only [st_X8_advance_0, st_X8_advance_1, st_X8_advance_2, ↓if_pos, ↓if_neg, if_pos, if_neg, ↓reduceIte, true_and, and_true, false_and, and_false, true_or, or_true, false_or, or_false, w32_id, Kv, Kn, fup_s, fup_a, fup_k, fup_fup, Int.reduceAdd, Int.reduceSub, Int.reduceMul, Int.reduceNeg, S_byteAt hW q5 hb2 hn, f7, f6, f9, S_within, hub2]
              exact hKK
            · rw [if_neg h8] at f9
              have hKK := hK2 _ (fup (fup H2 178 9 (v10 b S (3 : Int).toNat)) 178 7 (i + 1)) _ ⟨rfl, rfl, fun a ha => by rw [fup_r ha, fup_r ha]; exact f1 a ha, fun k hk => by rw [fup_k (by omega), fup_k (by omega)]; exact f2 k hk, by rw [fup_k (by omega), fup_k (by omega)]; exact f6, by rw [fup_s], by rw [fup_k (by omega), fup_s, if_neg (by omega)]⟩
              simp (disch := first | assumption | omega) only [st_X8_advance_0, st_X8_advance_1, st_X8_advance_2, ↓if_pos, ↓if_neg, if_pos, if_neg, ↓reduceIte, true_and, and_true, false_and, and_false, true_or, or_true, false_or, or_false, w32_id, Kv, Kn, fup_s, fup_a, fup_k, fup_fup, Int.reduceAdd, Int.reduceSub, Int.reduceMul, Int.reduceNeg, S_byteAt hW q5 hb2 hn, f7, f6, f9, S_within, hub2]
              exact hKK
          · rintro L H2 R2 ⟨rfl, rfl, f1, f2, f6, f7, f9⟩
            have q5 : H2 178 5 = n := by rw [f2 5 (by omega)]; exact e5
            have hb2 : ∀ k, 0 ≤ k → k < n → H2 181 k = b k ∧ -128 ≤ b k ∧ b k ≤ 127 := fun k a c => by rw [f1 181 (by omega)]; exact hb k a c
            rw [← hEd] at f7 f9 hEr
            have hE0 : 0 ≤ tE b n p := by omega
            have hKK := K (fup H2 178 8 (tK b n p)) ⟨fun a ha => by rw [fup_r ha]; exact f1 a ha, fun k hk => by rw [fup_k (by omega)]; exact f2 k hk, by rw [fup_k (by omega), f6, hSe], by rw [fup_k (by omega), f7], by rw [fup_s], fun z => by
              rw [hKd] at z
              have h8 : ¬ 3 < tE b n p - S := by intro y; rw [if_pos y] at z; omega
              rw [fup_k (by omega), f9]
              unfold tV
              rw [hSe]
              congr 1
              split <;> omega, fun z => by rw [hKd] at z; split at z <;> omega⟩
            rw [hKd] at hKK
            have hend : tE b n p < n → ¬ (48 ≤ ub (b (tE b n p)) ∧ ub (b (tE b n p)) ≤ 57) := fun z y => hEr.2.2.2 z ((ub_k (hb _ hE0 z).2.1 (hb _ hE0 z).2.2).2.1.mpr y)
            generalize tE b n p = E at *
            rw [sh_X8_advance_200]
            by_cases hen : E < n
            · have hne := hend hen
              by_cases h8 : 3 < E - S
              · rw [if_pos h8] at hKK
                simp (disch := first | assumption | omega) only [st_X8_advance_0, st_X8_advance_1, st_X8_advance_2, ↓if_pos, ↓if_neg, if_pos, if_neg, ↓reduceIte, true_and, and_true, false_and, and_false, true_or, or_true, false_or, or_false, w32_id, Kv, Kn, fup_s, fup_a, fup_k, fup_fup, Int.reduceAdd, Int.reduceSub, Int.reduceMul, Int.reduceNeg, S_byteAt hW q5 hb2 hn, f7, f6, S_within]
                exact hKK
              · rw [if_neg h8] at hKK
                simp (disch := first | assumption | omega) only [st_X8_advance_0, st_X8_advance_1, st_X8_advance_2, ↓if_pos, ↓if_neg, if_pos, if_neg, ↓reduceIte, true_and, and_true, false_and, and_false, true_or, or_true, false_or, or_false, w32_id, Kv, Kn, fup_s, fup_a, fup_k, fup_fup, Int.reduceAdd, Int.reduceSub, Int.reduceMul, Int.reduceNeg, S_byteAt hW q5 hb2 hn, f7, f6, S_within]
                exact hKK
            · by_cases h8 : 3 < E - S
              · rw [if_pos h8] at hKK
                simp (disch := first | assumption | omega) only [st_X8_advance_0, st_X8_advance_1, st_X8_advance_2, ↓if_pos, ↓if_neg, if_pos, if_neg, ↓reduceIte, true_and, and_true, false_and, and_false, true_or, or_true, false_or, or_false, w32_id, Kv, Kn, fup_s, fup_a, fup_k, fup_fup, Int.reduceAdd, Int.reduceSub, Int.reduceMul, Int.reduceNeg, S_byteAt hW q5 hb2 hn, f7, f6, S_within]
                exact hKK
              · rw [if_neg h8] at hKK
                simp (disch := first | assumption | omega) only [st_X8_advance_0, st_X8_advance_1, st_X8_advance_2, ↓if_pos, ↓if_neg, if_pos, if_neg, ↓reduceIte, true_and, and_true, false_and, and_false, true_or, or_true, false_or, or_false, w32_id, Kv, Kn, fup_s, fup_a, fup_k, fup_fup, Int.reduceAdd, Int.reduceSub, Int.reduceMul, Int.reduceNeg, S_byteAt hW q5 hb2 hn, f7, f6, S_within]
                exact hKK
        · have hnu2 : ¬ (48 ≤ ub (b S) ∧ ub (b S) ≤ 57) := fun z => h2 (hub.2.1.mpr z)
          have hEd : tE b n p = S + 1 := by
            unfold tE
            rw [hSe, if_neg hSn, if_neg (fun z => by omega)]
          have hKd : tK b n p = kc (b S) := by
            unfold tK
            rw [hSe, if_neg hSn, if_neg h1, if_neg h2]
          have hKK := K (fup (fup A 178 7 (S + 1)) 178 8 (kc (b S))) ⟨fun a ha => by rw [fup_r ha, fup_r ha]; exact hA0 a ha, fun k hk => by rw [fup_k (by omega), fup_k (by omega)]; exact hAk k (by omega) (by omega) (by omega) (by omega), by rw [fup_k (by omega), fup_k (by omega), hA6, hSe], by rw [fup_k (by omega), fup_s, hEd], by rw [fup_s, hKd], fun z => by rw [hKd] at z; omega, fun z => by rw [hKd] at z; omega⟩
          by_cases h3 : kc (b S) = 3
          · have hu3 := hub.2.2.1.mp h3
            rw [h3] at hKK
            simp (disch := first | assumption | omega) only [st_X8_advance_0, st_X8_advance_1, st_X8_advance_2, ↓if_pos, ↓if_neg, if_pos, if_neg, ↓reduceIte, true_and, and_true, false_and, and_false, true_or, or_true, false_or, or_false, w32_id, Kv, Kn, fup_s, fup_a, fup_k, fup_fup, Int.reduceAdd, Int.reduceSub, Int.reduceMul, Int.reduceNeg, S_byteAt hW a5 hbA hn, hA7, S_within, hu3]
            exact hKK
          · have hu3 : ub (b S) ≠ 59 := fun z => h3 (hub.2.2.1.mpr z)
            rw [show kc (b S) = 4 from by omega] at hKK
            simp (disch := first | assumption | omega) only [st_X8_advance_0, st_X8_advance_1, st_X8_advance_2, ↓if_pos, ↓if_neg, if_pos, if_neg, ↓reduceIte, true_and, and_true, false_and, and_false, true_or, or_true, false_or, or_false, w32_id, Kv, Kn, fup_s, fup_a, fup_k, fup_fup, Int.reduceAdd, Int.reduceSub, Int.reduceMul, Int.reduceNeg, S_byteAt hW a5 hbA hn, hA7, S_within]
            exact hKK
