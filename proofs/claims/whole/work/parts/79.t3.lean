/-! TEXT: what the tokens describe, as a function -/
def kk (b : Int → Int) (n j : Int) : Int := tK b n (tP b n j.toNat)
def ss (b : Int → Int) (n j : Int) : Int := tS b n (tP b n j.toNat)
def ww (b : Int → Int) (n j : Int) : List Int := tW b n (tP b n j.toNat)
def vv (b : Int → Int) (n j : Int) : Int := tV b n (tP b n j.toNat)
/-- there's a token at j, or the end -/
def Al (b : Int → Int) (n j : Int) : Prop := 0 ≤ j ∧ ∀ i, 0 ≤ i → i < j → kk b n i ≠ 0
theorem al_0 {b : Int → Int} {n : Int} : Al b n 0 := ⟨Int.le_refl _, fun i h1 h2 => absurd h2 (by omega)⟩
theorem al_s {b : Int → Int} {n j : Int} (h : Al b n j) (hk : kk b n j ≠ 0) : Al b n (j + 1) := ⟨by have := h.1; omega, fun i h1 h2 => by
  by_cases e : i = j
  · rw [e]; exact hk
  · exact h.2 i h1 (by omega)⟩
theorem tK_1 {b : Int → Int} {n p : Int} (h : tK b n p = 1) : tS b n p < n ∧ kc (b (tS b n p)) = 1 ∧ tE b n p - tS b n p ≤ 8 ∧ tE b n p = ad b n 1 (tS b n p) := by
  have hk := kc_rng (x := b (tS b n p))
  have e : tE b n p = if n ≤ tS b n p then n else if kc (b (tS b n p)) = 1 ∨ kc (b (tS b n p)) = 2 then ad b n (kc (b (tS b n p))) (tS b n p) else tS b n p + 1 := rfl
  unfold tK at h
  by_cases h1 : n ≤ tS b n p
  · rw [if_pos h1] at h; omega
  · rw [if_neg h1] at h e
    by_cases h2 : kc (b (tS b n p)) = 1
    · rw [if_pos h2] at h
      rw [if_pos (Or.inl h2), h2] at e
      refine ⟨by omega, h2, ?_, e⟩
      by_cases h3 : 8 < tE b n p - tS b n p
      · rw [if_pos h3] at h; omega
      · omega
    · rw [if_neg h2] at h
      (repeat' split at h) <;> omega
theorem tK_2 {b : Int → Int} {n p : Int} (h : tK b n p = 2) : tS b n p < n ∧ kc (b (tS b n p)) = 2 ∧ tE b n p - tS b n p ≤ 3 ∧ tE b n p = ad b n 2 (tS b n p) := by
  have hk := kc_rng (x := b (tS b n p))
  have e : tE b n p = if n ≤ tS b n p then n else if kc (b (tS b n p)) = 1 ∨ kc (b (tS b n p)) = 2 then ad b n (kc (b (tS b n p))) (tS b n p) else tS b n p + 1 := rfl
  unfold tK at h
  by_cases h1 : n ≤ tS b n p
  · rw [if_pos h1] at h; omega
  · rw [if_neg h1] at h e
    by_cases h2 : kc (b (tS b n p)) = 1
    · rw [if_pos h2] at h
      split at h <;> omega
    · rw [if_neg h2] at h
      by_cases h4 : kc (b (tS b n p)) = 2
      · rw [if_pos h4] at h
        rw [if_pos (Or.inr h4), h4] at e
        refine ⟨by omega, h4, ?_, e⟩
        by_cases h3 : 3 < tE b n p - tS b n p
        · rw [if_pos h3] at h; omega
        · omega
      · rw [if_neg h4] at h
        omega
/-- lists of letters -/
def Dg : List Int → Prop
  | [] => True
  | d :: t => (1 ≤ d ∧ d ≤ 26) ∧ Dg t
theorem N32_nn : ∀ x : List Int, Dg x → 0 ≤ N32 x
  | [], _ => Int.le_refl _
  | d :: t, h => by
    have ih := N32_nn t h.2
    have h1 := h.1
    show 0 ≤ N32 t * 32 + d
    omega
theorem N256_nn : ∀ x : List Int, Dg x → 0 ≤ N256 x
  | [], _ => Int.le_refl _
  | d :: t, h => by
    have ih := N256_nn t h.2
    have h1 := h.1
    show 0 ≤ N256 t * 256 + (d + 96)
    omega
theorem N32_inj : ∀ x y : List Int, Dg x → Dg y → N32 x = N32 y → x = y
  | [], [], _, _, _ => rfl
  | [], d :: t, _, hy, e => by
    have h1 := N32_nn t hy.2
    have h2 := hy.1
    have e' : 0 = N32 t * 32 + d := e
    omega
  | d :: t, [], hx, _, e => by
    have h1 := N32_nn t hx.2
    have h2 := hx.1
    have e' : N32 t * 32 + d = 0 := e
    omega
  | d :: t, d' :: t', hx, hy, e => by
    have h2 := hx.1
    have h3 := hy.1
    have e' : N32 t * 32 + d = N32 t' * 32 + d' := e
    have h4 : d = d' := by omega
    rw [h4, N32_inj t t' hx.2 hy.2 (by omega)]
theorem N256_inj : ∀ x y : List Int, Dg x → Dg y → N256 x = N256 y → x = y
  | [], [], _, _, _ => rfl
  | [], d :: t, _, hy, e => by
    have h1 := N256_nn t hy.2
    have h2 := hy.1
    have e' : 0 = N256 t * 256 + (d + 96) := e
    omega
  | d :: t, [], hx, _, e => by
    have h1 := N256_nn t hx.2
    have h2 := hx.1
    have e' : N256 t * 256 + (d + 96) = 0 := e
    omega
  | d :: t, d' :: t', hx, hy, e => by
    have h2 := hx.1
    have h3 := hy.1
    have e' : N256 t * 256 + (d + 96) = N256 t' * 256 + (d' + 96) := e
    have h4 : d = d' := by omega
    rw [h4, N256_inj t t' hx.2 hy.2 (by omega)]
theorem wd_dg {b : Int → Int} {s : Int} : ∀ i : Nat, (∀ q, s ≤ q → q < s + i → kc (b q) = 1) → Dg (wd b s i)
  | 0, _ => trivial
  | i + 1, h => by
    have ih := wd_dg (b := b) (s := s) i (fun q h1 h2 => h q h1 (by omega))
    have h1 := kc_1.mp (h (s + i) (by omega) (by omega))
    exact ⟨by omega, ih⟩
/-- a word's facts -/
theorem ww_ok {b : Int → Int} {n j : Int} (hn : 0 ≤ n) (hk : kk b n j = 1) : Dg (ww b n j) ∧ 1 ≤ (ww b n j).length ∧ N32 (ww b n j) ≤ 1000000000000 ∧ rv b (ss b n j) 1 (tE b n (tP b n j.toNat) - ss b n j).toNat = N32 (ww b n j) := by
  have hp := tP_rng (b := b) hn j.toNat
  have h1 := tK_1 hk
  have hs := tS_rng (b := b) hp.2
  have hr := ad_rng (b := b) (k := 1) hs.2
  rw [← h1.2.2.2] at hr
  have he := tE_rng (b := b) hp.2
  have hq : ∀ q, tS b n (tP b n j.toNat) ≤ q → q < tS b n (tP b n j.toNat) + ((tE b n (tP b n j.toNat) - tS b n (tP b n j.toNat)).toNat : Nat) → kc (b q) = 1 := fun q a c => hr.2.2.1 q a (by omega)
  have hl : ∀ (i : Nat), (wd b (tS b n (tP b n j.toNat)) i).length = i := by
    intro i
    induction i with
    | zero => rfl
    | succ i ih => show (wd b (tS b n (tP b n j.toNat)) i).length + 1 = i + 1; rw [ih]
  have hB := B32_8 ⟨(tE b n (tP b n j.toNat) - tS b n (tP b n j.toNat)).toNat, by omega⟩
  have hwr := wd_rng (b := b) _ hq
  dsimp only at hB
  refine ⟨wd_dg _ hq, ?_, ?_, rv_w _ (by have : ss b n j = tS b n (tP b n j.toNat) := rfl; omega) hq⟩
  · show 1 ≤ (wd b _ _).length
    rw [hl]
    have := he.2.2 h1.1
    omega
  · show N32 (wd b _ _) ≤ _
    omega
theorem vv_ok {b : Int → Int} {n j : Int} (hn : 0 ≤ n) (hk : kk b n j = 2) : (0 ≤ vv b n j ∧ vv b n j ≤ 999) ∧ rv b (ss b n j) 2 (tE b n (tP b n j.toNat) - ss b n j).toNat = vv b n j := by
  have hp := tP_rng (b := b) hn j.toNat
  have h1 := tK_2 hk
  have hs := tS_rng (b := b) hp.2
  have hr := ad_rng (b := b) (k := 2) hs.2
  rw [← h1.2.2.2] at hr
  have he := tE_rng (b := b) hp.2
  have hq : ∀ q, tS b n (tP b n j.toNat) ≤ q → q < tS b n (tP b n j.toNat) + ((tE b n (tP b n j.toNat) - tS b n (tP b n j.toNat)).toNat : Nat) → kc (b q) = 2 := fun q a c => hr.2.2.1 q a (by omega)
  have hv := v10_rng (b := b) (s := tS b n (tP b n j.toNat)) (tE b n (tP b n j.toNat) - tS b n (tP b n j.toNat)).toNat (by omega) hq
  refine ⟨⟨hv.1, ?_⟩, rv_v _ (by have : ss b n j = tS b n (tP b n j.toNat) := rfl; omega) hq⟩
  have h2 := hv.2
  show v10 b _ _ ≤ 999
  (repeat' split at h2) <;> omega
theorem toks_at {h : PF} {b : Int → Int} {n j : Int} (hn : 0 ≤ n) (hK : TOKS h b n) (hA : Al b n j) : (0 ≤ j ∧ j ≤ 600) ∧ j < h 4 3 ∧ h 5 j = kk b n j ∧ h 6 j = ss b n j ∧ (kk b n j = 1 → h 7 j = N32 (ww b n j)) ∧ (kk b n j = 2 → h 7 j = vv b n j) := by
  obtain ⟨J, j1, j2, j3, j4, j5, j6⟩ := hK
  have h0 := hA.1
  have ejj : ((j.toNat : Nat) : Int) = j := by omega
  have hle : j ≤ J := by
    by_cases hc : j ≤ J
    · exact hc
    · have := hA.2 J (by omega) (by omega)
      exact absurd j3 (by unfold kk at this; rwa [show ((J : Nat) : Int).toNat = J from by omega] at this)
  refine ⟨⟨h0, by omega⟩, by omega, ?_⟩
  by_cases hJ : j = J
  · have e : j.toNat = J := by omega
    have hk0 : kk b n j = 0 := by unfold kk; rw [e]; exact j3
    have hs : ss b n j = n := by
      have h1 := tK_0.mp j3
      have h2 := tS_rng (b := b) (tP_rng (b := b) hn J).2
      unfold ss
      rw [e]
      omega
    rw [hk0, hs, hJ]
    exact ⟨j4, j5, fun z => by omega, fun z => by omega⟩
  · have hd := j6 j.toNat (by omega)
    rw [ejj] at hd
    refine ⟨hd.1, hd.2.1, fun z => ?_, fun z => ?_⟩
    · have h1 := tK_1 z
      have h2 := hd.2.2.2 (Or.inl h1.2.1)
      rw [h1.2.1] at h2
      rw [h2]
      exact (ww_ok hn z).2.2.2
    · have h1 := tK_2 z
      have h2 := hd.2.2.2 (Or.inr h1.2.1)
      rw [h1.2.1] at h2
      rw [h2]
      exact (vv_ok hn z).2
theorem toks_fr {h h' : PF} {b : Int → Int} {n : Int} (hK : TOKS h b n) (h4 : h' 4 3 = h 4 3) (h5 : h' 5 = h 5) (h6 : h' 6 = h 6) (h7 : h' 7 = h 7) : TOKS h' b n := by
  obtain ⟨J, j1, j2, j3, j4, j5, j6⟩ := hK
  refine ⟨J, by rw [h4]; exact j1, j2, j3, by rw [h5]; exact j4, by rw [h6]; exact j5, fun j hj => ?_⟩
  rw [h5, h6, h7]
  exact j6 j hj
/-- the words of the grammar: the string constants, last letter first -/
def kwF (a : Int) : Nat → List Int
  | 0 => []
  | i + 1 => (pstrAt a i - 96) :: kwF a i
def kw (a : Int) : List Int := kwF a (pstrLen a).toNat
theorem kw_7 : ∀ k : Fin 7, (1 ≤ pstrLen (-((k.val : Nat) : Int) - 1) ∧ pstrLen (-((k.val : Nat) : Int) - 1) ≤ 7) ∧ ∀ i : Fin 7, ((i.val : Nat) : Int) < pstrLen (-((k.val : Nat) : Int) - 1) → 97 ≤ pstrAt (-((k.val : Nat) : Int) - 1) ((i.val : Nat) : Int) ∧ pstrAt (-((k.val : Nat) : Int) - 1) ((i.val : Nat) : Int) ≤ 122 := by decide +kernel
theorem kw_ok {a : Int} (h : -7 ≤ a) (h2 : a < 0) : (1 ≤ pstrLen a ∧ pstrLen a ≤ 7) ∧ ∀ i, 0 ≤ i → i < pstrLen a → 97 ≤ pstrAt a i ∧ pstrAt a i ≤ 122 := by
  have k := kw_7 ⟨(-a - 1).toNat, by omega⟩
  simp only [Int.toNat_of_nonneg (show 0 ≤ -a - 1 by omega)] at k
  rw [show -(-a - 1) - 1 = a from by omega] at k
  refine ⟨k.1, fun i hi hi2 => ?_⟩
  have k2 := k.2 ⟨i.toNat, by omega⟩
  simp only [Int.toNat_of_nonneg hi] at k2
  exact k2 hi2
theorem kwF_rng {a : Int} (h : -7 ≤ a) (h2 : a < 0) : ∀ i : Nat, (i : Int) ≤ pstrLen a → Dg (kwF a i) ∧ 0 ≤ N32 (kwF a i) ∧ N32 (kwF a i) ≤ B32 i
  | 0, _ => ⟨trivial, Int.le_refl _, Int.le_refl _⟩
  | i + 1, hi => by
    have ih := kwF_rng h h2 i (by omega)
    have k := (kw_ok h h2).2 i (by omega) (by omega)
    refine ⟨⟨by omega, ih.1⟩, ?_⟩
    show 0 ≤ N32 (kwF a i) * 32 + (pstrAt a i - 96) ∧ N32 (kwF a i) * 32 + (pstrAt a i - 96) ≤ B32 i * 32 + 26
    omega
theorem wd_kw {b : Int → Int} {s a : Int} : ∀ i : Nat, (wd b s i = kwF a i ↔ ∀ q : Nat, q < i → b (s + q) = pstrAt a q)
  | 0 => ⟨fun _ q h => absurd h (by omega), fun _ => rfl⟩
  | i + 1 => by
    have ih := wd_kw (b := b) (s := s) (a := a) i
    show ((b (s + i) - 96) :: wd b s i = (pstrAt a i - 96) :: kwF a i ↔ _)
    rw [List.cons.injEq, ih]
    refine ⟨fun z q hq => ?_, fun z => ⟨by rw [z i (by omega)], fun q hq => z q (by omega)⟩⟩
    by_cases e : q = i
    · rw [e]; omega
    · exact z.2 q (by omega)
theorem wd_len {b : Int → Int} {s : Int} : ∀ i : Nat, (wd b s i).length = i
  | 0 => rfl
  | i + 1 => by show (wd b s i).length + 1 = i + 1; rw [wd_len i]
theorem kwF_len {a : Int} : ∀ i : Nat, (kwF a i).length = i
  | 0 => rfl
  | i + 1 => by show (kwF a i).length + 1 = i + 1; rw [kwF_len i]

theorem K_packed {a : Int} {nx : Nat} {h r : PF} {s : Int → Int} {Q : PO → PY → Nat → PC → Prop} (h1 : -7 ≤ a) (h2 : a < 0) (K : Q (Sum.inl (some (pJ (N32 (kw a))))) LY nx (h, r, s)) : Wp 77 0 [some (pR a), none, none, none] [] LY nx (h, r, s) Q := by
  have hk := kw_ok h1 h2
  simp (disch := first | assumption | omega) only [st_X6_packed, ↓if_pos, ↓if_neg, if_pos, if_neg, ↓reduceIte, true_and, and_true, false_and, and_false, true_or, or_true, false_or, or_false, w32_id, Kv, Kn, fup_s, fup_a, fup_k, fup_fup, Int.reduceAdd, Int.reduceSub, Int.reduceMul, Int.reduceNeg]
  refine loopL (Inv := fun i L => L = [some (pR a), some (pJ (N32 (kwF a i.toNat))), none, some (pI i)]) (a := 0) (n := pstrLen a) (by omega) ?_ ?_ _ rfl
  · rintro i L hi hi2 rfl hK
    have hr := kwF_rng h1 h2 i.toNat (by omega)
    have hB := B32_8 ⟨i.toNat, by omega⟩
    dsimp only at hB
    have hc := hk.2 i hi hi2
    have hK2 := hK _ rfl
    have e : N32 (kwF a (i + 1).toNat) = N32 (kwF a i.toNat) * 32 + (pstrAt a i - 96) := by
      rw [show (i + 1).toNat = i.toNat + 1 from by omega]
      show N32 (kwF a i.toNat) * 32 + (pstrAt a ((i.toNat : Nat) : Int) - 96) = _
      rw [show ((i.toNat : Nat) : Int) = i from by omega]
    rw [e] at hK2
    have e64 : w64 (N32 (kwF a i.toNat) * 32) = N32 (kwF a i.toNat) * 32 := w64_id (by omega) (by omega)
    have e65 : w64 (N32 (kwF a i.toNat) * 32 + (pstrAt a i - 97 + 1)) = N32 (kwF a i.toNat) * 32 + (pstrAt a i - 96) := by rw [w64_id (by omega) (by omega)]; omega
    rw [sh_X6_packed_4]
    simp (disch := first | assumption | omega) only [st_X6_packed, ↓if_pos, ↓if_neg, if_pos, if_neg, ↓reduceIte, true_and, and_true, false_and, and_false, true_or, or_true, false_or, or_false, w32_id, Kv, Kn, fup_s, fup_a, fup_k, fup_fup, Int.reduceAdd, Int.reduceSub, Int.reduceMul, Int.reduceNeg, st_X6_baseOf, st_X6_digitOf, e64, e65]
    exact hK2
  · rintro L rfl
    rw [sh_X6_packed_4]
    simp (disch := first | assumption | omega) only [st_X6_packed, ↓if_pos, ↓if_neg, if_pos, if_neg, ↓reduceIte, true_and, and_true, false_and, and_false, true_or, or_true, false_or, or_false, w32_id, Kv, Kn, fup_s, fup_a, fup_k, fup_fup, Int.reduceAdd, Int.reduceSub, Int.reduceMul, Int.reduceNeg]
    exact K
theorem S_packed {a : Int} {nx : Nat} {h r : PF} {s : Int → Int} {Q : PO → PY → Nat → PC → Prop} (h1 : -7 ≤ a) (h2 : a < 0) : Wp 77 0 [some (pR a), none, none, none] [] LY nx (h, r, s) Q ↔ Q (Sum.inl (some (pJ (N32 (kw a))))) LY nx (h, r, s) := Wp.eq (K_packed h1 h2 ⟨rfl, rfl, rfl, rfl⟩)
theorem kw_dg {a : Int} (h1 : -7 ≤ a) (h2 : a < 0) : Dg (kw a) := (kwF_rng h1 h2 (pstrLen a).toNat (by have := (kw_ok h1 h2).1; omega)).1
def isK (b : Int → Int) (n j a : Int) : Prop := kk b n j = 1 ∧ ww b n j = kw a
theorem S_kind {n j : Int} {b : Int → Int} {nx : Nat} {h r : PF} {s : Int → Int} {Q : PO → PY → Nat → PC → Prop} (hW : WFr r) (hn : 0 ≤ n) (hK : TOKS h b n) (hA : Al b n j) : Wp 74 0 [some (pR 4), some (pI j)] [] LY nx (h, r, s) Q ↔ Q (Sum.inl (some (pI (kk b n j)))) LY nx (h, r, s) := by
  obtain ⟨⟨a1, a2⟩, a3, a4, a5, a6, a7⟩ := toks_at hn hK hA
  simp (disch := first | assumption | omega) only [st_X6_kind, ↓if_pos, ↓if_neg, if_pos, if_neg, ↓reduceIte, true_and, and_true, false_and, and_false, true_or, or_true, false_or, or_false, w32_id, Kv, Kn, fup_s, fup_a, fup_k, fup_fup, Int.reduceAdd, Int.reduceSub, Int.reduceMul, Int.reduceNeg, a4]
theorem S_start {n j : Int} {b : Int → Int} {nx : Nat} {h r : PF} {s : Int → Int} {Q : PO → PY → Nat → PC → Prop} (hW : WFr r) (hn : 0 ≤ n) (hK : TOKS h b n) (hA : Al b n j) : Wp 75 0 [some (pR 4), some (pI j)] [] LY nx (h, r, s) Q ↔ Q (Sum.inl (some (pI (ss b n j)))) LY nx (h, r, s) := by
  obtain ⟨⟨a1, a2⟩, a3, a4, a5, a6, a7⟩ := toks_at hn hK hA
  simp (disch := first | assumption | omega) only [st_X6_start, ↓if_pos, ↓if_neg, if_pos, if_neg, ↓reduceIte, true_and, and_true, false_and, and_false, true_or, or_true, false_or, or_false, w32_id, Kv, Kn, fup_s, fup_a, fup_k, fup_fup, Int.reduceAdd, Int.reduceSub, Int.reduceMul, Int.reduceNeg, a5]
theorem S_value1 {n j : Int} {b : Int → Int} {nx : Nat} {h r : PF} {s : Int → Int} {Q : PO → PY → Nat → PC → Prop} (hW : WFr r) (hn : 0 ≤ n) (hK : TOKS h b n) (hA : Al b n j) (hk : kk b n j = 1) : Wp 76 0 [some (pR 4), some (pI j)] [] LY nx (h, r, s) Q ↔ Q (Sum.inl (some (pJ (N32 (ww b n j))))) LY nx (h, r, s) := by
  obtain ⟨⟨a1, a2⟩, a3, a4, a5, a6, a7⟩ := toks_at hn hK hA
  have e := a6 hk
  simp (disch := first | assumption | omega) only [st_X6_value, ↓if_pos, ↓if_neg, if_pos, if_neg, ↓reduceIte, true_and, and_true, false_and, and_false, true_or, or_true, false_or, or_false, w32_id, Kv, Kn, fup_s, fup_a, fup_k, fup_fup, Int.reduceAdd, Int.reduceSub, Int.reduceMul, Int.reduceNeg, e]
theorem S_value2 {n j : Int} {b : Int → Int} {nx : Nat} {h r : PF} {s : Int → Int} {Q : PO → PY → Nat → PC → Prop} (hW : WFr r) (hn : 0 ≤ n) (hK : TOKS h b n) (hA : Al b n j) (hk : kk b n j = 2) : Wp 76 0 [some (pR 4), some (pI j)] [] LY nx (h, r, s) Q ↔ Q (Sum.inl (some (pJ (vv b n j)))) LY nx (h, r, s) := by
  obtain ⟨⟨a1, a2⟩, a3, a4, a5, a6, a7⟩ := toks_at hn hK hA
  have e := a7 hk
  simp (disch := first | assumption | omega) only [st_X6_value, ↓if_pos, ↓if_neg, if_pos, if_neg, ↓reduceIte, true_and, and_true, false_and, and_false, true_or, or_true, false_or, or_false, w32_id, Kv, Kn, fup_s, fup_a, fup_k, fup_fup, Int.reduceAdd, Int.reduceSub, Int.reduceMul, Int.reduceNeg, e]
theorem S_failC {n j c : Int} {b : Int → Int} {nx : Nat} {h r : PF} {s : Int → Int} {Q : PO → PY → Nat → PC → Prop} (hW : WFr r) (hn : 0 ≤ n) (hK : TOKS h b n) (hA : Al b n j) : Wp 38 0 [some (pR 2), some (pI c), some (pI j)] [] LY nx (h, r, s) Q ↔ Q (Sum.inl (some (pI 0))) LY nx (fup (fup h 2 1 c) 2 2 (ss b n j), r, s) := by
  have hK2 : TOKS (fup h 2 1 c) b n := toks_fr hK (by rw [fup_a (by omega)]) (fup_r (by omega)) (fup_r (by omega)) (fup_r (by omega))
  simp (disch := first | assumption | omega) only [st_X3_fail, ↓if_pos, ↓if_neg, if_pos, if_neg, ↓reduceIte, true_and, and_true, false_and, and_false, true_or, or_true, false_or, or_false, w32_id, Kv, Kn, fup_s, fup_a, fup_k, fup_fup, Int.reduceAdd, Int.reduceSub, Int.reduceMul, Int.reduceNeg, S_start hW hn hK2 hA]
theorem S_isKey {n j a : Int} {b : Int → Int} {nx : Nat} {h r : PF} {s : Int → Int} {Q : PO → PY → Nat → PC → Prop} (hW : WFr r) (hn : 0 ≤ n) (hK : TOKS h b n) (hA : Al b n j) (h1 : -7 ≤ a) (h2 : a < 0) {x : Int} (hx : x = 1 ∧ isK b n j a ∨ x = 0 ∧ ¬ isK b n j a) : Wp 40 0 [some (pR 2), some (pI j), some (pR a)] [] LY nx (h, r, s) Q ↔ Q (Sum.inl (some (pI x))) LY nx (h, r, s) := by
  by_cases hk : kk b n j = 1
  · have hw := ww_ok hn hk
    have hkd := kw_dg h1 h2
    rcases hx with z | z
    · have e : N32 (ww b n j) = N32 (kw a) := by rw [z.2.2]
      rw [z.1]
      simp (disch := first | assumption | omega) only [st_X3_isKeyword, ↓if_pos, ↓if_neg, if_pos, if_neg, ↓reduceIte, true_and, and_true, false_and, and_false, true_or, or_true, false_or, or_false, w32_id, Kv, Kn, fup_s, fup_a, fup_k, fup_fup, Int.reduceAdd, Int.reduceSub, Int.reduceMul, Int.reduceNeg, S_kind hW hn hK hA, hk, S_value1 hW hn hK hA hk, S_packed, e, plcmp_eq]
    · have e : N32 (ww b n j) ≠ N32 (kw a) := fun y => z.2 ⟨hk, N32_inj _ _ hw.1 hkd y⟩
      rw [z.1]
      by_cases hl : N32 (ww b n j) < N32 (kw a)
      · skip
        simp (disch := first | assumption | omega) only [st_X3_isKeyword, ↓if_pos, ↓if_neg, if_pos, if_neg, ↓reduceIte, true_and, and_true, false_and, and_false, true_or, or_true, false_or, or_false, w32_id, Kv, Kn, fup_s, fup_a, fup_k, fup_fup, Int.reduceAdd, Int.reduceSub, Int.reduceMul, Int.reduceNeg, S_kind hW hn hK hA, hk, S_value1 hW hn hK hA hk, S_packed, plcmp_lt]
      · skip
        simp (disch := first | assumption | omega) only [st_X3_isKeyword, ↓if_pos, ↓if_neg, if_pos, if_neg, ↓reduceIte, true_and, and_true, false_and, and_false, true_or, or_true, false_or, or_false, w32_id, Kv, Kn, fup_s, fup_a, fup_k, fup_fup, Int.reduceAdd, Int.reduceSub, Int.reduceMul, Int.reduceNeg, S_kind hW hn hK hA, hk, S_value1 hW hn hK hA hk, S_packed, plcmp_gt]
  · rcases hx with z | z
    · exact absurd z.2.1 hk
    · rw [z.1]
      simp (disch := first | assumption | omega) only [st_X3_isKeyword, ↓if_pos, ↓if_neg, if_pos, if_neg, ↓reduceIte, true_and, and_true, false_and, and_false, true_or, or_true, false_or, or_false, w32_id, Kv, Kn, fup_s, fup_a, fup_k, fup_fup, Int.reduceAdd, Int.reduceSub, Int.reduceMul, Int.reduceNeg, S_kind hW hn hK hA]
/-- numbers -/
def pNum (b : Int → Int) (n lo hi j : Int) : (Int × Int) ⊕ Int := if kk b n j ≠ 2 then Sum.inl (1, ss b n j) else if vv b n j < lo ∨ hi < vv b n j then Sum.inl (3, ss b n j) else Sum.inr (vv b n j)
/-- the class's reader stands at token j -/
def CI (h : PF) (b : Int → Int) (n j : Int) : Prop := TOKS h b n ∧ h 2 7 = j ∧ Al b n j
theorem C_takeNumber {n j lo hi : Int} {b : Int → Int} {nx : Nat} {h r : PF} {s : Int → Int} {Q : PO → PY → Nat → PC → Prop} (hW : WFr r) (hn : 0 ≤ n) (hC : CI h b n j) (hlo : 0 ≤ lo) (Kf : ∀ (c e : Int) (h' : PF), pNum b n lo hi j = Sum.inl (c, e) → (∀ a, a ≠ 2 → h' a = h a) → (∀ k, k ≠ 1 → k ≠ 2 → h' 2 k = h 2 k) → h' 2 1 = c → h' 2 2 = e → Q (Sum.inl (some (pI 0))) LY nx (h', r, s)) (Ks : ∀ (v : Int) (h' : PF), pNum b n lo hi j = Sum.inr v → (lo ≤ v ∧ v ≤ hi ∧ v ≤ 999) → kk b n j = 2 → (∀ a, a ≠ 2 → h' a = h a) → (∀ k, k ≠ 7 → k ≠ 8 → h' 2 k = h 2 k) → h' 2 8 = v → CI h' b n (j + 1) → Q (Sum.inl (some (pI 1))) LY nx (h', r, s)) : Wp 34 0 [some (pR 2), some (pI lo), some (pI hi), none, none] [] LY nx (h, r, s) Q := by
  obtain ⟨hK, e7, hA⟩ := hC
  have hjr := (toks_at hn hK hA).1
  by_cases hk : kk b n j = 2
  · have hv := vv_ok hn hk
    by_cases ho : vv b n j < lo ∨ hi < vv b n j
    · have hKK := Kf 3 (ss b n j) (fup (fup h 2 1 3) 2 2 (ss b n j)) (by unfold pNum; rw [if_neg (fun z => z hk), if_pos ho]) (fun a ha => by rw [fup_r ha, fup_r ha]) (fun k h1 h2 => by rw [fup_k h2, fup_k h1]) (by rw [fup_k (by omega), fup_s]) (by rw [fup_s])
      rcases ho with y | y
      · skip
        simp (disch := first | assumption | omega) only [st_X3_takeNumber, ↓if_pos, ↓if_neg, if_pos, if_neg, ↓reduceIte, true_and, and_true, false_and, and_false, true_or, or_true, false_or, or_false, w32_id, Kv, Kn, fup_s, fup_a, fup_k, fup_fup, Int.reduceAdd, Int.reduceSub, Int.reduceMul, Int.reduceNeg, e7, S_kind hW hn hK hA, S_value2 hW hn hK hA hk, hk, S_failC hW hn hK hA, plcmp_lt]
        exact hKK
      · by_cases h3 : vv b n j < lo
        · skip
          simp (disch := first | assumption | omega) only [st_X3_takeNumber, ↓if_pos, ↓if_neg, if_pos, if_neg, ↓reduceIte, true_and, and_true, false_and, and_false, true_or, or_true, false_or, or_false, w32_id, Kv, Kn, fup_s, fup_a, fup_k, fup_fup, Int.reduceAdd, Int.reduceSub, Int.reduceMul, Int.reduceNeg, e7, S_kind hW hn hK hA, S_value2 hW hn hK hA hk, hk, S_failC hW hn hK hA, plcmp_lt]
          exact hKK
        · by_cases h4 : vv b n j = lo
          · have h5 : hi < lo := by omega
            simp (disch := first | assumption | omega) only [st_X3_takeNumber, ↓if_pos, ↓if_neg, if_pos, if_neg, ↓reduceIte, true_and, and_true, false_and, and_false, true_or, or_true, false_or, or_false, w32_id, Kv, Kn, fup_s, fup_a, fup_k, fup_fup, Int.reduceAdd, Int.reduceSub, Int.reduceMul, Int.reduceNeg, e7, S_kind hW hn hK hA, S_value2 hW hn hK hA hk, hk, S_failC hW hn hK hA, h4, plcmp_eq, plcmp_gt]
            exact hKK
          · skip
            simp (disch := first | assumption | omega) only [st_X3_takeNumber, ↓if_pos, ↓if_neg, if_pos, if_neg, ↓reduceIte, true_and, and_true, false_and, and_false, true_or, or_true, false_or, or_false, w32_id, Kv, Kn, fup_s, fup_a, fup_k, fup_fup, Int.reduceAdd, Int.reduceSub, Int.reduceMul, Int.reduceNeg, e7, S_kind hW hn hK hA, S_value2 hW hn hK hA hk, hk, S_failC hW hn hK hA, plcmp_gt]
            exact hKK
    · have hKK := Ks (vv b n j) (fup (fup h 2 8 (vv b n j)) 2 7 (j + 1)) (by unfold pNum; rw [if_neg (fun z => z hk), if_neg ho]) (by omega) hk (fun a ha => by rw [fup_r ha, fup_r ha]) (fun k h1 h2 => by rw [fup_k h1, fup_k h2]) (by rw [fup_k (by omega), fup_s]) ⟨toks_fr hK (by rw [fup_a (by omega), fup_a (by omega)]) (by rw [fup_r (by omega), fup_r (by omega)]) (by rw [fup_r (by omega), fup_r (by omega)]) (by rw [fup_r (by omega), fup_r (by omega)]), by rw [fup_s], al_s hA (by omega)⟩
      have h1 : plcmp (vv b n j) lo = 1 ∨ plcmp (vv b n j) lo = 0 := by
        by_cases y : vv b n j = lo
        · exact Or.inr (plcmp_eq y)
        · exact Or.inl (plcmp_gt (by omega))
      have h2 : plcmp (vv b n j) hi = -1 ∨ plcmp (vv b n j) hi = 0 := by
        by_cases y : vv b n j = hi
        · exact Or.inr (plcmp_eq y)
        · exact Or.inl (plcmp_lt (by omega))
      rcases h1 with y1 | y1 <;> rcases h2 with y2 | y2
      all_goals
        (simp (disch := first | assumption | omega) only [st_X3_takeNumber, ↓if_pos, ↓if_neg, if_pos, if_neg, ↓reduceIte, true_and, and_true, false_and, and_false, true_or, or_true, false_or, or_false, w32_id, Kv, Kn, fup_s, fup_a, fup_k, fup_fup, Int.reduceAdd, Int.reduceSub, Int.reduceMul, Int.reduceNeg, e7, S_kind hW hn hK hA, S_value2 hW hn hK hA hk, hk, y1, y2]
         exact hKK)
  · have hKK := Kf 1 (ss b n j) (fup (fup h 2 1 1) 2 2 (ss b n j)) (by unfold pNum; rw [if_pos hk]) (fun a ha => by rw [fup_r ha, fup_r ha]) (fun k h1 h2 => by rw [fup_k h2, fup_k h1]) (by rw [fup_k (by omega), fup_s]) (by rw [fup_s])
    simp (disch := first | assumption | omega) only [st_X3_takeNumber, ↓if_pos, ↓if_neg, if_pos, if_neg, ↓reduceIte, true_and, and_true, false_and, and_false, true_or, or_true, false_or, or_false, w32_id, Kv, Kn, fup_s, fup_a, fup_k, fup_fup, Int.reduceAdd, Int.reduceSub, Int.reduceMul, Int.reduceNeg, e7, S_kind hW hn hK hA, S_failC hW hn hK hA]
    exact hKK
theorem C_takeSemi {n j : Int} {b : Int → Int} {nx : Nat} {h r : PF} {s : Int → Int} {Q : PO → PY → Nat → PC → Prop} (hW : WFr r) (hn : 0 ≤ n) (hC : CI h b n j) (Kf : ∀ (h' : PF), kk b n j ≠ 3 → (∀ a, a ≠ 2 → h' a = h a) → (∀ k, k ≠ 1 → k ≠ 2 → h' 2 k = h 2 k) → h' 2 1 = 1 → h' 2 2 = ss b n j → Q (Sum.inl (some (pI 0))) LY nx (h', r, s)) (Ks : ∀ (h' : PF), kk b n j = 3 → (∀ a, a ≠ 2 → h' a = h a) → (∀ k, k ≠ 7 → h' 2 k = h 2 k) → CI h' b n (j + 1) → Q (Sum.inl (some (pI 1))) LY nx (h', r, s)) : Wp 33 0 [some (pR 2)] [] LY nx (h, r, s) Q := by
  obtain ⟨hK, e7, hA⟩ := hC
  have hjr := (toks_at hn hK hA).1
  by_cases hk : kk b n j = 3
  · have hKK := Ks (fup h 2 7 (j + 1)) hk (fun a ha => by rw [fup_r ha]) (fun k h1 => by rw [fup_k h1]) ⟨toks_fr hK (by rw [fup_a (by omega)]) (by rw [fup_r (by omega)]) (by rw [fup_r (by omega)]) (by rw [fup_r (by omega)]), by rw [fup_s], al_s hA (by omega)⟩
    simp (disch := first | assumption | omega) only [st_X3_takeSemicolon, ↓if_pos, ↓if_neg, if_pos, if_neg, ↓reduceIte, true_and, and_true, false_and, and_false, true_or, or_true, false_or, or_false, w32_id, Kv, Kn, fup_s, fup_a, fup_k, fup_fup, Int.reduceAdd, Int.reduceSub, Int.reduceMul, Int.reduceNeg, e7, S_kind hW hn hK hA, hk]
    exact hKK
  · have hKK := Kf (fup (fup h 2 1 1) 2 2 (ss b n j)) hk (fun a ha => by rw [fup_r ha, fup_r ha]) (fun k h1 h2 => by rw [fup_k h2, fup_k h1]) (by rw [fup_k (by omega), fup_s]) (by rw [fup_s])
    simp (disch := first | assumption | omega) only [st_X3_takeSemicolon, ↓if_pos, ↓if_neg, if_pos, if_neg, ↓reduceIte, true_and, and_true, false_and, and_false, true_or, or_true, false_or, or_false, w32_id, Kv, Kn, fup_s, fup_a, fup_k, fup_fup, Int.reduceAdd, Int.reduceSub, Int.reduceMul, Int.reduceNeg, e7, S_kind hW hn hK hA, S_failC hW hn hK hA]
    exact hKK
/-- the first of the names that is this word -/
def nmF (W : Int → List Int) (x : List Int) (i a : Int) : Int := if a = -1 ∧ W i = x then i else a
def gNm (W : Int → List Int) (x : List Int) (m : Int) : Int := upto (nmF W x) m.toNat (-1)
theorem nm_rng {W : Int → List Int} {x : List Int} : ∀ n : Nat, upto (nmF W x) n (-1) = -1 ∨ 0 ≤ upto (nmF W x) n (-1) ∧ upto (nmF W x) n (-1) < n
  | 0 => Or.inl rfl
  | n + 1 => by
    have ih := nm_rng (W := W) (x := x) n
    show nmF W x n (upto (nmF W x) n (-1)) = -1 ∨ 0 ≤ nmF W x n (upto (nmF W x) n (-1)) ∧ nmF W x n (upto (nmF W x) n (-1)) < ((n + 1 : Nat) : Int)
    generalize upto (nmF W x) n (-1) = a at *
    unfold nmF
    split <;> omega
theorem nm_done {W : Int → List Int} {x : List Int} {n : Nat} (h : upto (nmF W x) n (-1) ≠ -1) : ∀ i : Nat, upto (nmF W x) (n + i) (-1) = upto (nmF W x) n (-1)
  | 0 => rfl
  | i + 1 => by
    show nmF W x ((n + i : Nat) : Int) (upto (nmF W x) (n + i) (-1)) = _
    rw [nm_done h i]
    unfold nmF
    rw [if_neg (fun z => h z.1)]
theorem nm_at {W : Int → List Int} {x : List Int} {i m : Int} (hi : 0 ≤ i) (hi2 : i < m) (h : upto (nmF W x) i.toNat (-1) = -1) (hw : W i = x) : gNm W x m = i := by
  have e : upto (nmF W x) (i + 1).toNat (-1) = i := by
    rw [upto_s hi, h]
    unfold nmF
    rw [if_pos ⟨rfl, hw⟩]
  have := nm_done (W := W) (x := x) (n := (i + 1).toNat) (by rw [e]; omega) (m.toNat - (i + 1).toNat)
  rw [show (i + 1).toNat + (m.toNat - (i + 1).toNat) = m.toNat from by omega, e] at this
  exact this
theorem K_indexOf {m : Int} {W : Int → List Int} {x : List Int} {nx : Nat} {h r : PF} {s : Int → Int} {Q : PO → PY → Nat → PC → Prop} (hW : WFr r) (hm : 0 ≤ m) (hm2 : m ≤ 4) (hx : Dg x) (hN : ∀ i, 0 ≤ i → i < m → h 8 i = N32 (W i) ∧ Dg (W i)) (K : Q (Sum.inl (some (pI (gNm W x m)))) LY nx (h, r, s)) : Wp 39 0 [some (pR 2), some (pJ (N32 x)), none, some (pI m), none] [] LY nx (h, r, s) Q := by
  simp (disch := first | assumption | omega) only [st_X3_indexOfName, ↓if_pos, ↓if_neg, if_pos, if_neg, ↓reduceIte, true_and, and_true, false_and, and_false, true_or, or_true, false_or, or_false, w32_id, Kv, Kn, fup_s, fup_a, fup_k, fup_fup, Int.reduceAdd, Int.reduceSub, Int.reduceMul, Int.reduceNeg]
  refine loopL (Inv := fun i L => upto (nmF W x) i.toNat (-1) = -1 ∧ L = [some (pR 2), some (pJ (N32 x)), none, some (pI m), some (pI i)]) (a := 0) (n := m) (by omega) ?_ ?_ _ ⟨rfl, rfl⟩
  · rintro i L hi hi2 ⟨h0, rfl⟩ hK
    have hni := hN i hi hi2
    have e8 := hni.1
    rw [sh_X3_indexOfName_3]
    by_cases hw : W i = x
    · rw [nm_at hi hi2 h0 hw] at K
      have e : N32 (W i) = N32 x := by rw [hw]
      simp (disch := first | assumption | omega) only [st_X3_indexOfName, ↓if_pos, ↓if_neg, if_pos, if_neg, ↓reduceIte, true_and, and_true, false_and, and_false, true_or, or_true, false_or, or_false, w32_id, Kv, Kn, fup_s, fup_a, fup_k, fup_fup, Int.reduceAdd, Int.reduceSub, Int.reduceMul, Int.reduceNeg, e8, e, plcmp_eq]
      exact K
    · have hne : N32 (W i) ≠ N32 x := fun z => hw (N32_inj _ _ hni.2 hx z)
      have hKK := hK _ ⟨by rw [upto_s hi, h0]; unfold nmF; rw [if_neg (fun z => hw z.2)], rfl⟩
      by_cases hl : N32 (W i) < N32 x
      · skip
        simp (disch := first | assumption | omega) only [st_X3_indexOfName, ↓if_pos, ↓if_neg, if_pos, if_neg, ↓reduceIte, true_and, and_true, false_and, and_false, true_or, or_true, false_or, or_false, w32_id, Kv, Kn, fup_s, fup_a, fup_k, fup_fup, Int.reduceAdd, Int.reduceSub, Int.reduceMul, Int.reduceNeg, e8, plcmp_lt]
        exact hKK
      · skip
        simp (disch := first | assumption | omega) only [st_X3_indexOfName, ↓if_pos, ↓if_neg, if_pos, if_neg, ↓reduceIte, true_and, and_true, false_and, and_false, true_or, or_true, false_or, or_false, w32_id, Kv, Kn, fup_s, fup_a, fup_k, fup_fup, Int.reduceAdd, Int.reduceSub, Int.reduceMul, Int.reduceNeg, e8, plcmp_gt]
        exact hKK
  · rintro L ⟨h0, rfl⟩
    have e : gNm W x m = -1 := h0
    rw [e] at K
    rw [sh_X3_indexOfName_3]
    simp (disch := first | assumption | omega) only [st_X3_indexOfName, ↓if_pos, ↓if_neg, if_pos, if_neg, ↓reduceIte, true_and, and_true, false_and, and_false, true_or, or_true, false_or, or_false, w32_id, Kv, Kn, fup_s, fup_a, fup_k, fup_fup, Int.reduceAdd, Int.reduceSub, Int.reduceMul, Int.reduceNeg]
    exact K
theorem S_indexOf {m : Int} {W : Int → List Int} {x : List Int} {nx : Nat} {h r : PF} {s : Int → Int} {Q : PO → PY → Nat → PC → Prop} (hW : WFr r) (hm : 0 ≤ m) (hm2 : m ≤ 4) (hx : Dg x) (hN : ∀ i, 0 ≤ i → i < m → h 8 i = N32 (W i) ∧ Dg (W i)) : Wp 39 0 [some (pR 2), some (pJ (N32 x)), none, some (pI m), none] [] LY nx (h, r, s) Q ↔ Q (Sum.inl (some (pI (gNm W x m)))) LY nx (h, r, s) := Wp.eq (K_indexOf hW hm hm2 hx hN ⟨rfl, rfl, rfl, rfl⟩)
