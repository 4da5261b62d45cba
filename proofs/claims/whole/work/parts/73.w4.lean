/-! WORDS: how many -/
def p4 : Nat → Int
  | 0 => 1
  | j + 1 => 4 * p4 j
theorem p4_21 : ∀ j : Fin 22, 1 ≤ p4 j.val ∧ p4 j.val ≤ 4398046511104 := by decide +kernel
theorem p4_le {j : Nat} (h : j ≤ 21) : 1 ≤ p4 j ∧ p4 j ≤ 4398046511104 := p4_21 ⟨j, by omega⟩
def wfF (T : Int → Int) (set c : Int) (W : Int → Int) (l a : Int) : Int := a + if gSt T set 0 c l = -1 then 0 else W (gSt T set 0 c l)
def Wf (T : Int → Int) (set : Int) : Nat → Int → Int
  | 0, c => gFd T set 0 c
  | j + 1, c => upto (wfF T set c (Wf T set j)) (T 0).toNat 0
theorem wfF_rng {T W : Int → Int} {set c B : Int} (hW : ∀ c, 0 ≤ W c ∧ W c ≤ B) : ∀ n : Nat, 0 ≤ upto (wfF T set c W) n 0 ∧ upto (wfF T set c W) n 0 ≤ n * B
  | 0 => by show (0 : Int) ≤ 0 ∧ (0 : Int) ≤ ((0 : Nat) : Int) * B; rw [show ((0 : Nat) : Int) = 0 from rfl, Int.zero_mul]; omega
  | n + 1 => by
    have ih := wfF_rng (T := T) (set := set) (c := c) hW n
    have h1 := hW (gSt T set 0 c n)
    show 0 ≤ wfF T set c W n (upto (wfF T set c W) n 0) ∧ wfF T set c W n (upto (wfF T set c W) n 0) ≤ ((n + 1 : Nat) : Int) * B
    generalize upto (wfF T set c W) n 0 = a at *
    rw [show ((n + 1 : Nat) : Int) = (n : Int) + 1 from by omega, Int.add_mul, Int.one_mul]
    unfold wfF
    split <;> omega
theorem Wf_rng {T : Int → Int} {set : Int} (hT : TWf T) : ∀ (j : Nat) (c : Int), 0 ≤ Wf T set j c ∧ Wf T set j c ≤ p4 j
  | 0, c => by
    show 0 ≤ gFd T set 0 c ∧ gFd T set 0 c ≤ 1
    rcases gFd_01 (T := T) (set := set) (ap := 0) (c := c) with z | z <;> omega
  | j + 1, c => by
    have ih := Wf_rng (set := set) hT j
    have hT0 := hT.1
    have h := wfF_rng (T := T) (set := set) (c := c) ih (T 0).toNat
    have hp : 0 ≤ p4 j := Int.le_trans (ih 0).1 (ih 0).2
    have h2 : ((T 0).toNat : Int) * p4 j ≤ 4 * p4 j := Int.mul_le_mul_of_nonneg_right (by omega) hp
    exact ⟨h.1, Int.le_trans h.2 h2⟩
theorem bPl_mono {S S' : BS} {c : Int} (h0 : 0 ≤ S.1) (hL : BLe S S') (h : bPl S c ≠ 0) : bPl S' c ≠ 0 := by
  intro z
  rcases bPl_cases (c := c) h0 with y | y
  · exact h y.1
  · rcases bPl_cases (c := c) (show 0 ≤ S'.1 by have := hL.1; omega) with q | q
    · have h1 := hL.2 (bPl S c - 1) (by omega) (by omega)
      exact q.2 (bPl S c - 1) (by omega) (by have := hL.1; omega) (h1.1.trans y.2.2)
    · omega
/-- the places before k have all their neighbours -/
def Clo (nx : Int → Int → Int) (L k : Int) (S : BS) : Prop := ∀ i, 0 ≤ i → i < k → i < S.1 → ∀ l, 0 ≤ l → l < L → nx (S.2.1 i) l = -1 ∨ bPl S (nx (S.2.1 i) l) ≠ 0
theorem bMeet_pl {S : BS} {c p : Int} (h0 : 0 ≤ S.1) : bPl (bMeet c p S) c ≠ 0 := by
  unfold bMeet
  by_cases h : bPl S c = 0
  · rw [if_pos h, bPl_add h0, if_pos rfl]; omega
  · rw [if_neg h]; exact h
theorem clo_plc {vc : Int → Prop} {ix : Int → Int} {nx : Int → Int → Int} {L k : Int} {S : BS} (hx : Ix vc ix) (hv : ∀ c l, vc c → 0 ≤ l → l < L → nx c l ≠ -1 → vc (nx c l)) (hS : BOk vc nx L S) (hk : 0 ≤ k) (hk2 : k < S.1) (hL : L ≤ 4) : ∀ n : Nat, (n : Int) ≤ L → ∀ l : Int, 0 ≤ l → l < n → nx (S.2.1 k) l = -1 ∨ bPl (upto (bLet nx k) n S) (nx (S.2.1 k) l) ≠ 0
  | 0, _, l, h1, h2 => absurd h2 (by omega)
  | n + 1, hn, l, h1, h2 => by
    have ih := clo_plc hx hv hS hk hk2 hL n (by omega)
    have hB := bPlc_ok hx hv hS hk hk2 hL n (by omega)
    have hw : (upto (bLet nx k) n S).2.1 k = S.2.1 k := (hB.2.2 k hk hk2).1
    have e : upto (bLet nx k) (n + 1) S = bLet nx k n (upto (bLet nx k) n S) := rfl
    have hB1 := hB.1.1
    have hL1 := bLet_ok (l := n) hx hv hB.1 hk (by have := hB.2.1; omega) (by omega) (by omega) hL
    rw [e]
    by_cases hl : l = n
    · by_cases hz : nx (S.2.1 k) l = -1
      · exact Or.inl hz
      · refine Or.inr ?_
        rw [bLet_eq, hw, ← hl, if_neg hz]
        exact bMeet_pl (by omega)
    · rcases ih l h1 (by omega) with z | z
      · exact Or.inl z
      · exact Or.inr (bPl_mono (by omega) hL1.2 z)
theorem clo_run {vc : Int → Prop} {ix : Int → Int} {nx : Int → Int → Int} {fd : Int → Int} {L : Int} (hx : Ix vc ix) (hv : ∀ c l, vc c → 0 ≤ l → l < L → nx c l ≠ -1 → vc (nx c l)) (hL : 0 ≤ L ∧ L ≤ 4) : ∀ (f : Nat) (k : Int) (S : BS), BOk vc nx L S → 0 ≤ k → 1296 ≤ k + f → Clo nx L k S → Clo nx L (bRun nx L.toNat fd 0 f k S).2.1 (bRun nx L.toNat fd 0 f k S).2
  | 0, k, S, hB, hk, hf, hC => by
    have hB1 := hB.1
    exact fun i h1 h2 h3 => hC i h1 (by have : i < S.1 := h3; omega) h3
  | f + 1, k, S, hB, hk, hf, hC => by
    have hB1 := hB.1
    rw [bRun_s f k S]
    by_cases hkn : k < S.1
    · rw [if_pos hkn, if_neg (fun z => z.1 rfl)]
      have hP := bPlc_ok hx hv hB hk hkn hL.2 L.toNat (by omega)
      have hQ := clo_plc hx hv hB hk hkn hL.2 L.toNat (by omega)
      refine clo_run hx hv hL f (k + 1) _ hP.1 (by omega) (by omega) (fun i h1 h2 h3 l h4 h5 => ?_)
      have hw : (bPlc nx L.toNat k S).2.1 i = S.2.1 i := (hP.2.2 i h1 (by omega)).1
      rw [hw]
      by_cases hi : i = k
      · rw [hi]; exact hQ l h4 (by omega)
      · rcases hC i h1 (by omega) (by omega) l h4 h5 with z | z
        · exact Or.inl z
        · exact Or.inr (bPl_mono (by omega) hP.2 z)
    · rw [if_neg hkn]
      exact fun i h1 h2 h3 => hC i h1 (by have : i < S.1 := h3; omega) h3

theorem K_waysFrom {p set c x : Int} {j : Nat} {T : Int → Int} {S : BS} {nx : Nat} {h r : PF} {s : Int → Int} {Q : PO → PY → Nat → PC → Prop} (hP : PlOk r p) (hT : TWf T) (hR : PlanRel h p T) (e6 : h 15 6 = set) (e7 : h 15 7 = 0) (hW : WFr r) (hr4 : r 15 4 = x) (hxy : x = 19 ∨ x = 20) (hx : Ix (VC T set 0) ps) (hC : CRel h S) (hB : BOk (VC T set 0) (gSt T set 0) (T 0) S) (hc : VC T set 0 c) (hcl : ∀ l, 0 ≤ l → l < T 0 → gSt T set 0 c l = -1 ∨ bPl S (gSt T set 0 c l) ≠ 0) (hj : j ≤ 19) (hw : ∀ i, 0 ≤ i → i < S.1 → h x i = Wf T set j (S.2.1 i)) (K : Q (Sum.inl (some (pJ (Wf T set (j + 1) c)))) LY nx (h, r, s)) : Wp 43 0 [some (pR 15), some (pR p), some (pI c), none, none, none, none] [] LY nx (h, r, s) Q := by
  have hT0 := hT.1
  have ep0 := hR.1.1
  have hP0 := hP.1.1
  have hPk := hP.1.2
  have hr0 : 0 < x := by omega
  have hrk : kd LY x = (2, 1296) := by rcases hxy with z | z <;> rw [z] <;> decide +kernel
  have hrr0 : 0 < r 15 4 := by omega
  have hrrk : kd LY (r 15 4) = (2, 1296) := by rw [hr4]; exact hrk
  have hB1 := hB.1
  simp (disch := first | assumption | omega) only [st_X4_waysFrom, ↓if_pos, ↓if_neg, if_pos, if_neg, ↓reduceIte, true_and, and_true, false_and, and_false, true_or, or_true, false_or, or_false, w32_id, Kv, Kn, fup_s, fup_a, fup_k, fup_fup, Int.reduceAdd, Int.reduceSub, Int.reduceMul, Int.reduceNeg]
  refine loopL (Inv := fun l L => ∃ x6 : Option PV, L = [some (pR 15), some (pR p), some (pI c), some (pJ (upto (wfF T set c (Wf T set j)) l.toNat 0)), none, some (pI l), x6]) (a := 0) (n := T 0) (by omega) ?_ ?_ _ ⟨none, rfl⟩
  · rintro l L hl hl2 ⟨x6, rfl⟩ hK
    have hr1 := wfF_rng (T := T) (set := set) (c := c) (fun c => Wf_rng (set := set) hT j c) l.toNat
    have hp4 := p4_le (j := j + 1) (by omega)
    have hp4j := p4_le (j := j) (by omega)
    have hlp : (l.toNat : Int) * p4 j ≤ 4 * p4 j := Int.mul_le_mul_of_nonneg_right (by omega) (by omega)
    have e4 : p4 (j + 1) = 4 * p4 j := rfl
    have eA : upto (wfF T set c (Wf T set j)) (l + 1).toNat 0 = wfF T set c (Wf T set j) l (upto (wfF T set c (Wf T set j)) l.toNat 0) := upto_s hl
    have hK1 := hK
    rw [eA] at hK1
    generalize upto (wfF T set c (Wf T set j)) l.toNat 0 = A at *
    unfold wfF at hK1
    rw [sh_X4_waysFrom_5]
    by_cases hs : gSt T set 0 c l = -1
    · rw [if_pos hs, Int.add_zero] at hK1
      have hK2 := hK1 _ ⟨some (pI (-1)), rfl⟩
      simp (disch := first | assumption | omega) only [st_X4_waysFrom, ↓if_pos, ↓if_neg, if_pos, if_neg, ↓reduceIte, true_and, and_true, false_and, and_false, true_or, or_true, false_or, or_false, w32_id, Kv, Kn, fup_s, fup_a, fup_k, fup_fup, Int.reduceAdd, Int.reduceSub, Int.reduceMul, Int.reduceNeg, ep0, C_step hP hT hR e6 e7 (Or.inl rfl) hc.1.1 hc.1.2 hl (show l < 4 by omega), hs]
      exact hK2
    · rw [if_neg hs] at hK1
      have hK2 := hK1 _ ⟨some (pI (gSt T set 0 c l)), rfl⟩
      have hvs : VC T set 0 (gSt T set 0 c l) := vc_st hT hl (by omega) hs
      have hv1 := hvs.1.1
      have hv2 := hvs.1.2
      have e16 := hC.2.2 _ hvs.1.1 hvs.1.2
      have hne : bPl S (gSt T set 0 c l) ≠ 0 := by
        rcases hcl l hl hl2 with z | z
        · exact absurd z hs
        · exact z
      rcases bPl_cases (S := S) (c := gSt T set 0 c l) (by omega) with z | z
      · exact absurd z.1 hne
      · have hwv := hw (bPl S (gSt T set 0 c l) - 1) (by omega) (by omega)
        rw [z.2.2] at hwv
        have hwr := Wf_rng (set := set) hT j (gSt T set 0 c l)
        have h64 : w64 (A + Wf T set j (gSt T set 0 c l)) = A + Wf T set j (gSt T set 0 c l) := w64_id (by omega) (by omega)
        simp (disch := first | assumption | omega) only [st_X4_waysFrom, ↓if_pos, ↓if_neg, if_pos, if_neg, ↓reduceIte, true_and, and_true, false_and, and_false, true_or, or_true, false_or, or_false, w32_id, Kv, Kn, fup_s, fup_a, fup_k, fup_fup, Int.reduceAdd, Int.reduceSub, Int.reduceMul, Int.reduceNeg, ep0, C_step hP hT hR e6 e7 (Or.inl rfl) hc.1.1 hc.1.2 hl (show l < 4 by omega), e16, hr4, hwv, h64]
        exact hK2
  · rintro L ⟨x6, rfl⟩
    rw [sh_X4_waysFrom_5]
    simp (disch := first | assumption | omega) only [st_X4_waysFrom, ↓if_pos, ↓if_neg, if_pos, if_neg, ↓reduceIte, true_and, and_true, false_and, and_false, true_or, or_true, false_or, or_false, w32_id, Kv, Kn, fup_s, fup_a, fup_k, fup_fup, Int.reduceAdd, Int.reduceSub, Int.reduceMul, Int.reduceNeg, ep0]
    exact K
theorem C_waysFrom {p set c x : Int} {j : Nat} {T : Int → Int} {S : BS} {nx : Nat} {h r : PF} {s : Int → Int} {Q : PO → PY → Nat → PC → Prop} (hP : PlOk r p) (hT : TWf T) (hR : PlanRel h p T) (e6 : h 15 6 = set) (e7 : h 15 7 = 0) (hW : WFr r) (hr4 : r 15 4 = x) (hxy : x = 19 ∨ x = 20) (hx : Ix (VC T set 0) ps) (hC : CRel h S) (hB : BOk (VC T set 0) (gSt T set 0) (T 0) S) (hc : VC T set 0 c) (hcl : ∀ l, 0 ≤ l → l < T 0 → gSt T set 0 c l = -1 ∨ bPl S (gSt T set 0 c l) ≠ 0) (hj : j ≤ 19) (hw : ∀ i, 0 ≤ i → i < S.1 → h x i = Wf T set j (S.2.1 i)) : Wp 43 0 [some (pR 15), some (pR p), some (pI c), none, none, none, none] [] LY nx (h, r, s) Q ↔ Q (Sum.inl (some (pJ (Wf T set (j + 1) c)))) LY nx (h, r, s) := Wp.eq (K_waysFrom hP hT hR e6 e7 hW hr4 hxy hx hC hB hc hcl hj hw ⟨rfl, rfl, rfl, rfl⟩)
/-- the two rows of numbers of ways -/
def Two (r : PF) (x y : Int) : Prop := r 15 4 = x ∧ r 15 5 = y ∧ (x = 19 ∧ y = 20 ∨ x = 20 ∧ y = 19)
theorem crel_fr {h H : PF} {S : BS} (hC : CRel h S) (e3 : H 15 3 = h 15 3) (e16 : H 16 = h 16) (e17 : H 17 = h 17) (e18 : H 18 = h 18) : CRel H S := by
  unfold CRel
  rw [e3, e16, e17, e18]
  exact hC
theorem C_count {p set len : Int} {T : Int → Int} {nx : Nat} {h r : PF} {s : Int → Int} {Q : PO → PY → Nat → PC → Prop} (hW : WFr r) (hRO : RefOk r) (hP : PlOk r p) (hp20 : 20 < p) (hT : TWf T) (hR : PlanRel h p T) (hF : SearchOk h) (hlen : 0 ≤ len ∧ len ≤ 20) (K : ∀ (h' r' : PF), (∀ a, a < 15 ∨ 20 < a → h' a = h a) → RefOk r' → (∀ a, a ≠ 15 → r' a = r a) → SearchOk h' → Q (Sum.inl (some (pJ (Wf T set len.toNat 0)))) LY nx (h', r', s)) : Wp 42 0 [some (pR 15), some (pR p), some (pI set), some (pI len), none, none] [] LY nx (h, r, s) Q := by
  have hT0 := hT.1
  have hP0 := hP.1.1
  have hPk := hP.1.2
  have hx := ix_ps (set := set) hT
  have hv : ∀ c l, VC T set 0 c → 0 ≤ l → l < T 0 → gSt T set 0 c l ≠ -1 → VC T set 0 (gSt T set 0 c l) := fun c l _ h1 h2 h3 => vc_st hT h1 (by omega) h3
  simp (disch := first | assumption | omega) only [st_X4_count_0, st_X4_count_1, ↓if_pos, ↓if_neg, if_pos, if_neg, ↓reduceIte, true_and, and_true, false_and, and_false, true_or, or_true, false_or, or_false, w32_id, Kv, Kn, fup_s, fup_a, fup_k, fup_fup, Int.reduceAdd, Int.reduceSub, Int.reduceMul, Int.reduceNeg]
  refine C_begin hW hF (Or.inl rfl) (fun h1 f1 g6 g7 hC1 => ?_)
  simp (disch := first | assumption | omega) only [st_X4_count_0, st_X4_count_1, ↓if_pos, ↓if_neg, if_pos, if_neg, ↓reduceIte, true_and, and_true, false_and, and_false, true_or, or_true, false_or, or_false, w32_id, Kv, Kn, fup_s, fup_a, fup_k, fup_fup, Int.reduceAdd, Int.reduceSub, Int.reduceMul, Int.reduceNeg]
  refine C_explore (ix := ps) hW hP hp20 hT (pr_fr (fun a z1 z2 => f1 a (by omega)) hR) g6 g7 (Or.inl rfl) (Or.inl rfl) hx hC1 (bS0_ok (vc_0 hT)) (fun h2 f2 g62 g72 hC2 hB2 hL2 => ?_)
  have hclo := clo_run (fd := gFd T set 0) hx hv (show 0 ≤ T 0 ∧ T 0 ≤ 4 by omega) 1296 0 bS0 (bS0_ok (vc_0 hT)) (by omega) (by omega) (fun i h1 h2 => absurd h2 (by omega))
  have hf2 : ∀ a, a < 15 ∨ 18 < a → h2 a = h a := fun a ha => by rw [f2 a ha, f1 a ha]
  generalize (bRun (gSt T set 0) (T 0).toNat (gFd T set 0) 0 1296 0 bS0) = Rs at *
  obtain ⟨k, S⟩ := Rs
  dsimp only at hC2 hB2 hclo
  have hB1 := hB2.1
  obtain ⟨x, y, hr4, hr5, hxy⟩ : ∃ x y, Two r x y := ⟨r 15 4, r 15 5, rfl, rfl, hRO.2.2⟩
  have hR2 : PlanRel h2 p T := pr_fr (fun a z1 z2 => hf2 a (by omega)) hR
  have kk : ∀ z : Int, z = 19 ∨ z = 20 → 0 < z ∧ kd LY z = (2, 1296) := fun z hz => by
    rcases hz with e | e <;> rw [e] <;> exact ⟨by decide, by decide +kernel⟩
  have kx := kk x (by omega)
  have kx0 := kx.1
  have kx1 := kx.2
  have hrx0 : 0 < r 15 4 := by omega
  have hrxk : kd LY (r 15 4) = (2, 1296) := by rw [hr4]; exact kx.2
  simp (disch := first | assumption | omega) only [st_X4_count_0, st_X4_count_1, ↓if_pos, ↓if_neg, if_pos, if_neg, ↓reduceIte, true_and, and_true, false_and, and_false, true_or, or_true, false_or, or_false, w32_id, Kv, Kn, fup_s, fup_a, fup_k, fup_fup, Int.reduceAdd, Int.reduceSub, Int.reduceMul, Int.reduceNeg]
  refine loopW (Inv := fun i L H R => L = [some (pR 15), some (pR p), some (pI set), some (pI len), some (pI i), none] ∧ R = r ∧ (∀ a, a ≠ x → H a = h2 a) ∧ ∀ q, 0 ≤ q → q < i → H x q = Wf T set 0 (S.2.1 q)) (a := 0) (n := S.1) (by omega) ?_ ?_ _ _ _ ⟨rfl, rfl, fun _ _ => rfl, fun q z1 z2 => absurd z2 (by omega)⟩
  · rintro i L H R hi hi2 ⟨rfl, rfl, hf, hwq⟩ hK
    have e15 : H 15 = h2 15 := hf 15 (by omega)
    have e17 : H 17 = h2 17 := hf 17 (by omega)
    have hRH : PlanRel H p T := pr_fr (fun a z1 z2 => hf a (by omega)) hR2
    have hc3 := hC2.1
    have hck := (hC2.2.1 i hi hi2).1
    have hvc := hB2.2.1 i hi hi2
    have q6 : H 15 6 = set := by rw [e15]; exact g62
    have q7 : H 15 7 = 0 := by rw [e15]; exact g72
    have hKK := hK _ (fup H x i (gFd T set 0 (S.2.1 i))) _ ⟨rfl, rfl, fun a ha => by rw [fup_r ha]; exact hf a ha, fun q z1 z2 => by
      by_cases hq : q = i
      · rw [hq, fup_s]; rfl
      · rw [fup_k hq]; exact hwq q z1 (by omega)⟩
    rw [sh_X4_count_16]
    rcases gFd_01 (T := T) (set := set) (ap := 0) (c := S.2.1 i) with z | z
    · rw [z] at hKK
      simp (disch := first | assumption | omega) only [st_X4_count_0, st_X4_count_1, ↓if_pos, ↓if_neg, if_pos, if_neg, ↓reduceIte, true_and, and_true, false_and, and_false, true_or, or_true, false_or, or_false, w32_id, Kv, Kn, fup_s, fup_a, fup_k, fup_fup, Int.reduceAdd, Int.reduceSub, Int.reduceMul, Int.reduceNeg, e15, e17, hc3, hck, C_isFound hP hT hRH q6 q7 (Or.inl rfl) hvc.1.1 hvc.1.2, z, hr4]
      exact hKK
    · rw [z] at hKK
      simp (disch := first | assumption | omega) only [st_X4_count_0, st_X4_count_1, ↓if_pos, ↓if_neg, if_pos, if_neg, ↓reduceIte, true_and, and_true, false_and, and_false, true_or, or_true, false_or, or_false, w32_id, Kv, Kn, fup_s, fup_a, fup_k, fup_fup, Int.reduceAdd, Int.reduceSub, Int.reduceMul, Int.reduceNeg, e15, e17, hc3, hck, C_isFound hP hT hRH q6 q7 (Or.inl rfl) hvc.1.1 hvc.1.2, z, hr4]
      exact hKK
  · rintro L H R ⟨rfl, rfl, hf, hwq⟩
    have e15 : H 15 = h2 15 := hf 15 (by omega)
    have hc3 := hC2.1
    rw [sh_X4_count_16]
    simp (disch := first | assumption | omega) only [st_X4_count_0, st_X4_count_1, ↓if_pos, ↓if_neg, if_pos, if_neg, ↓reduceIte, true_and, and_true, false_and, and_false, true_or, or_true, false_or, or_false, w32_id, Kv, Kn, fup_s, fup_a, fup_k, fup_fup, Int.reduceAdd, Int.reduceSub, Int.reduceMul, Int.reduceNeg, e15, hc3]
    refine loopW (Inv := fun n L H2 R2 => ∃ (x5 : Option PV) (x y : Int), L = [some (pR 15), some (pR p), some (pI set), some (pI len), some (pI n), x5] ∧ Two R2 x y ∧ RefOk R2 ∧ (∀ a, a ≠ 15 → R2 a = R a) ∧ (∀ a, a ≠ 19 → a ≠ 20 → H2 a = h2 a) ∧ ∀ q, 0 ≤ q → q < S.1 → H2 x q = Wf T set (n - 1).toNat (S.2.1 q)) (a := 1) (n := len + 1) (by omega) ?_ ?_ _ _ _ ⟨none, x, y, rfl, ⟨hr4, hr5, hxy⟩, hRO, fun _ _ => rfl, fun a z1 z2 => hf a (by omega), hwq⟩
    · rintro n L H2 R2 hn hn2 ⟨x5, x, y, rfl, ⟨hr4, hr5, hxy⟩, hRO2, hRr, hf3, hwq2⟩ hK
      have hW2 := hRO2.1
      have hP2 : PlOk R2 p := by
        have e := hRr p (by omega)
        unfold PlOk at hP ⊢
        rw [e]
        exact hP
      have kx := kk x (by omega)
      have kx0 := kx.1
      have kx1 := kx.2
      have ky := kk y (by omega)
      have ky0 := ky.1
      have ky1 := ky.2
      have hrx0 : 0 < R2 15 4 := by omega
      have hrxk : kd LY (R2 15 4) = (2, 1296) := by rw [hr4]; exact kx.2
      have hry0 : 0 < R2 15 5 := by omega
      have hryk : kd LY (R2 15 5) = (2, 1296) := by rw [hr5]; exact ky.2
      rw [sh_X4_count_61]
      simp (disch := first | assumption | omega) only [st_X4_count_0, st_X4_count_1, ↓if_pos, ↓if_neg, if_pos, if_neg, ↓reduceIte, true_and, and_true, false_and, and_false, true_or, or_true, false_or, or_false, w32_id, Kv, Kn, fup_s, fup_a, fup_k, fup_fup, Int.reduceAdd, Int.reduceSub, Int.reduceMul, Int.reduceNeg]
      refine loopW (Inv := fun i L H3 R3 => L = [some (pR 15), some (pR p), some (pI set), some (pI len), some (pI n), some (pI i)] ∧ R3 = R2 ∧ (∀ a, a ≠ y → H3 a = H2 a) ∧ ∀ q, 0 ≤ q → q < i → H3 y q = Wf T set ((n - 1).toNat + 1) (S.2.1 q)) (a := 0) (n := S.1) (by omega) ?_ ?_ _ _ _ ⟨rfl, rfl, fun _ _ => rfl, fun q z1 z2 => absurd z2 (by omega)⟩
      · rintro i L H3 R3 hi hi2 ⟨rfl, rfl, hf4, hwq3⟩ hK3
        have e15 : H3 15 = h2 15 := by rw [hf4 15 (by omega), hf3 15 (by omega) (by omega)]
        have e16 : H3 16 = h2 16 := by rw [hf4 16 (by omega), hf3 16 (by omega) (by omega)]
        have e17 : H3 17 = h2 17 := by rw [hf4 17 (by omega), hf3 17 (by omega) (by omega)]
        have e18 : H3 18 = h2 18 := by rw [hf4 18 (by omega), hf3 18 (by omega) (by omega)]
        have hRH : PlanRel H3 p T := pr_fr (fun a z1 z2 => by rw [hf4 a (by omega), hf3 a (by omega) (by omega)]) hR2
        have hC3 : CRel H3 S := crel_fr hC2 (by rw [e15]) e16 e17 e18
        have hck := (hC2.2.1 i hi hi2).1
        have hvc := hB2.2.1 i hi hi2
        have q6 : H3 15 6 = set := by rw [e15]; exact g62
        have q7 : H3 15 7 = 0 := by rw [e15]; exact g72
        have hwx : ∀ q, 0 ≤ q → q < S.1 → H3 x q = Wf T set (n - 1).toNat (S.2.1 q) := fun q z1 z2 => by rw [hf4 x (by omega)]; exact hwq2 q z1 z2
        have hKK := hK3 _ (fup H3 y i (Wf T set ((n - 1).toNat + 1) (S.2.1 i))) _ ⟨rfl, rfl, fun a ha => by rw [fup_r ha]; exact hf4 a ha, fun q z1 z2 => by
          by_cases hq : q = i
          · rw [hq, fup_s]
          · rw [fup_k hq]; exact hwq3 q z1 (by omega)⟩
        rw [sh_X4_count_70]
        simp (disch := first | assumption | omega) only [st_X4_count_0, st_X4_count_1, ↓if_pos, ↓if_neg, if_pos, if_neg, ↓reduceIte, true_and, and_true, false_and, and_false, true_or, or_true, false_or, or_false, w32_id, Kv, Kn, fup_s, fup_a, fup_k, fup_fup, Int.reduceAdd, Int.reduceSub, Int.reduceMul, Int.reduceNeg, e15, e17, hc3, hck, C_waysFrom hP2 hT hRH q6 q7 hW2 hr4 (show x = 19 ∨ x = 20 by omega) hx hC3 hB2 hvc (fun l z1 z2 => hclo i hi hi2 hi2 l z1 z2) (show (n - 1).toNat ≤ 19 by omega) hwx, hr5]
        exact hKK
      · rintro L H3 R3 ⟨rfl, rfl, hf4, hwq3⟩
        have e15 : H3 15 = h2 15 := by rw [hf4 15 (by omega), hf3 15 (by omega) (by omega)]
        have hKK := hK _ H3 (fup (fup R3 15 5 x) 15 4 y) ⟨some (pR y), y, x, rfl, ⟨by rw [fup_s], by rw [fup_k (by omega), fup_s], by omega⟩, ⟨wfr_up (Or.inl rfl) (wfr_up (Or.inr rfl) hW2), by rw [fup_a (by omega), fup_a (by omega), fup_a (by omega), fup_a (by omega)]; exact hRO2.2.1, by rw [fup_s, fup_k (by omega), fup_s]; omega⟩, fun a ha => by rw [fup_r ha, fup_r ha]; exact hRr a ha, fun a z1 z2 => by rw [hf4 a (by omega)]; exact hf3 a z1 z2, fun q z1 z2 => by rw [show (n + 1 - 1).toNat = (n - 1).toNat + 1 from by omega]; exact hwq3 q z1 z2⟩
        rw [sh_X4_count_70]
        simp (disch := first | assumption | omega) only [st_X4_count_0, st_X4_count_1, ↓if_pos, ↓if_neg, if_pos, if_neg, ↓reduceIte, true_and, and_true, false_and, and_false, true_or, or_true, false_or, or_false, w32_id, Kv, Kn, fup_s, fup_a, fup_k, fup_fup, Int.reduceAdd, Int.reduceSub, Int.reduceMul, Int.reduceNeg, e15, hc3, hr4, hr5]
        exact hKK
    · rintro L H2 R2 ⟨x5, x, y, rfl, ⟨hr4, hr5, hxy⟩, hRO2, hRr, hf3, hwq2⟩
      have hW2 := hRO2.1
      have kx := kk x (by omega)
      have kx0 := kx.1
      have kx1 := kx.2
      have hrx0 : 0 < R2 15 4 := by omega
      have hrxk : kd LY (R2 15 4) = (2, 1296) := by rw [hr4]; exact kx.2
      have hw0 := hwq2 0 (by omega) (by omega)
      rw [hB2.2.2.2.1, show (len + 1 - 1).toNat = len.toNat from by omega] at hw0
      have hKK := K H2 R2 (fun a ha => by rw [hf3 a (by omega) (by omega)]; exact hf2 a (by omega)) hRO2 hRr (search_of (crel_ok hx hB2 hC2) (by rw [hf3 15 (by omega) (by omega)]) (hf3 16 (by omega) (by omega)) (hf3 17 (by omega) (by omega)))
      rw [sh_X4_count_61]
      simp (disch := first | assumption | omega) only [st_X4_count_0, st_X4_count_1, ↓if_pos, ↓if_neg, if_pos, if_neg, ↓reduceIte, true_and, and_true, false_and, and_false, true_or, or_true, false_or, or_false, w32_id, Kv, Kn, fup_s, fup_a, fup_k, fup_fup, Int.reduceAdd, Int.reduceSub, Int.reduceMul, Int.reduceNeg, hr4, hw0]
      exact hKK
