/-! THE SEARCH: places in the order in which they are met -/
theorem pig : ∀ (M n : Nat) (f : Nat → Nat), (∀ i, i < n → f i < M) → (∀ i j, i < n → j < n → f i = f j → i = j) → n ≤ M
  | 0, n, f, h, _ => by
    by_cases hn : n = 0
    · omega
    · exact absurd (h 0 (by omega)) (by omega)
  | M + 1, n, f, h, hinj => by
    by_cases hx : ∃ i, i < n ∧ f i = M
    · obtain ⟨i0, hi0, hf0⟩ := hx
      have := pig M (n - 1) (fun i => if i < i0 then f i else f (i + 1)) (fun i hi => by
        (try dsimp only)
        split
        · have h1 := h i (by omega)
          have h2 : f i ≠ M := fun z => by have := hinj i i0 (by omega) hi0 (by omega); omega
          omega
        · have h1 := h (i + 1) (by omega)
          have h2 : f (i + 1) ≠ M := fun z => by have := hinj (i + 1) i0 (by omega) hi0 (by omega); omega
          omega) (fun i j hi hj he => by
        (try dsimp only at he)
        split at he <;> split at he
        · exact hinj i j (by omega) (by omega) he
        · have := hinj i (j + 1) (by omega) (by omega) he; omega
        · have := hinj (i + 1) j (by omega) (by omega) he; omega
        · have := hinj (i + 1) (j + 1) (by omega) (by omega) he; omega)
      omega
    · have := pig M n f (fun i hi => by
        have h1 := h i hi
        have h2 : f i ≠ M := fun z => hx ⟨i, hi, z⟩
        omega) hinj
      omega
theorem upto_cg {α : Type} {f g : Int → α → α} {a : α} : ∀ n : Nat, (∀ (k : Nat) (x : α), k < n → f k x = g k x) → upto f n a = upto g n a
  | 0, _ => rfl
  | n + 1, h => by
    show f n (upto f n a) = g n (upto g n a)
    rw [upto_cg n (fun k x hk => h k x (by omega)), h n _ (by omega)]
abbrev BS : Type := Int × (Int → Int) × (Int → Int)
def plF (w : Int → Int) (c i a : Int) : Int := if w i = c then i + 1 else a
def bPl (S : BS) (c : Int) : Int := upto (plF S.2.1 c) S.1.toNat 0
theorem plF_cases {w : Int → Int} {c : Int} : ∀ n : Nat, (upto (plF w c) n 0 = 0 ∧ ∀ i : Int, 0 ≤ i → i < n → w i ≠ c) ∨ (1 ≤ upto (plF w c) n 0 ∧ upto (plF w c) n 0 ≤ n ∧ w (upto (plF w c) n 0 - 1) = c)
  | 0 => Or.inl ⟨rfl, fun i h1 h2 => absurd h2 (by omega)⟩
  | n + 1 => by
    have ih := plF_cases (w := w) (c := c) n
    have e : upto (plF w c) (n + 1) 0 = plF w c n (upto (plF w c) n 0) := rfl
    rw [e]
    generalize upto (plF w c) n 0 = a at *
    unfold plF
    by_cases h : w n = c
    · rw [if_pos h]
      exact Or.inr ⟨by omega, by omega, by rw [show (n : Int) + 1 - 1 = n from by omega]; exact h⟩
    · rw [if_neg h]
      rcases ih with z | z
      · refine Or.inl ⟨z.1, fun i h1 h2 => ?_⟩
        by_cases hi : i = n
        · rw [hi]; exact h
        · exact z.2 i h1 (by omega)
      · exact Or.inr ⟨z.1, by omega, z.2.2⟩
theorem bPl_cases {S : BS} {c : Int} (h0 : 0 ≤ S.1) : (bPl S c = 0 ∧ ∀ i, 0 ≤ i → i < S.1 → S.2.1 i ≠ c) ∨ (1 ≤ bPl S c ∧ bPl S c ≤ S.1 ∧ S.2.1 (bPl S c - 1) = c) := by
  rcases plF_cases (w := S.2.1) (c := c) S.1.toNat with z | z
  · exact Or.inl ⟨z.1, fun i h1 h2 => z.2 i h1 (by omega)⟩
  · exact Or.inr ⟨z.1, by have := z.2.1; unfold bPl; omega, z.2.2⟩
def bAdd (c p : Int) (S : BS) : BS := (S.1 + 1, up1 S.2.1 S.1 c, up1 S.2.2 S.1 p)
def bMeet (c p : Int) (S : BS) : BS := if bPl S c = 0 then bAdd c p S else S
theorem bPl_add {S : BS} {c p c' : Int} (h0 : 0 ≤ S.1) : bPl (bAdd c p S) c' = if c' = c then S.1 + 1 else bPl S c' := by
  show upto (plF (up1 S.2.1 S.1 c) c') (S.1 + 1).toNat 0 = _
  rw [upto_s h0]
  have e : upto (plF (up1 S.2.1 S.1 c) c') S.1.toNat 0 = bPl S c' := upto_cg _ (fun k x hk => by
    unfold plF
    rw [up1_k (by omega)])
  rw [e]
  unfold plF
  rw [up1_s]
  by_cases h : c' = c
  · rw [if_pos h, if_pos h.symm]
  · rw [if_neg h, if_neg (fun z => h z.symm)]
def bLet (nx : Int → Int → Int) (k l : Int) (S : BS) : BS := if nx (S.2.1 k) l = -1 then S else bMeet (nx (S.2.1 k) l) (k * 4 + l) S
theorem bLet_eq (nx : Int → Int → Int) (k l : Int) (S : BS) : bLet nx k l S = if nx (S.2.1 k) l = -1 then S else bMeet (nx (S.2.1 k) l) (k * 4 + l) S := rfl
def bPlc (nx : Int → Int → Int) (L : Nat) (k : Int) (S : BS) : BS := upto (bLet nx k) L S
def bRun (nx : Int → Int → Int) (L : Nat) (fd : Int → Int) (fs : Int) : Nat → Int → BS → Int × BS
  | 0, _, S => (-1, S)
  | f + 1, k, S => if k < S.1 then (if fs ≠ 0 ∧ fd (S.2.1 k) = 1 then (k, S) else bRun nx L fd fs f (k + 1) (bPlc nx L k S)) else (-1, S)
theorem bRun_s {nx : Int → Int → Int} {L : Nat} {fd : Int → Int} {fs : Int} (f : Nat) (k : Int) (S : BS) : bRun nx L fd fs (f + 1) k S = if k < S.1 then (if fs ≠ 0 ∧ fd (S.2.1 k) = 1 then (k, S) else bRun nx L fd fs f (k + 1) (bPlc nx L k S)) else (-1, S) := rfl
theorem gFd_01 {T : Int → Int} {set ap c : Int} : gFd T set ap c = 1 ∨ gFd T set ap c = 0 := by
  unfold gFd
  by_cases hq : gAcc T set c = (if ap ≠ 0 then 1 else bcE set)
  · exact Or.inl (if_pos hq)
  · exact Or.inr (if_neg hq)
def bS0 : BS := bMeet 0 0 (0, fun _ => 0, fun _ => 0)
/-- valid codes, an index that keeps them apart, what the search keeps -/
def Ix (vc : Int → Prop) (ix : Int → Int) : Prop := (∀ c, vc c → (0 ≤ c ∧ c < 2401) ∧ 0 ≤ ix c ∧ ix c < 1296) ∧ ∀ c c', vc c → vc c' → ix c = ix c' → c = c'
def BOk (vc : Int → Prop) (nx : Int → Int → Int) (L : Int) (S : BS) : Prop := (1 ≤ S.1 ∧ S.1 ≤ 1296) ∧ (∀ i, 0 ≤ i → i < S.1 → vc (S.2.1 i)) ∧ (∀ i j, 0 ≤ i → i < S.1 → 0 ≤ j → j < S.1 → S.2.1 i = S.2.1 j → i = j) ∧ S.2.1 0 = 0 ∧ ∀ i, 1 ≤ i → i < S.1 → 0 ≤ S.2.2 i ∧ S.2.2 i / 4 < i ∧ S.2.2 i % 4 < L ∧ nx (S.2.1 (S.2.2 i / 4)) (S.2.2 i % 4) = S.2.1 i
theorem b_room {vc : Int → Prop} {ix : Int → Int} {nx : Int → Int → Int} {L c : Int} {S : BS} (hx : Ix vc ix) (hS : BOk vc nx L S) (hc : vc c) (hn : ∀ i, 0 ≤ i → i < S.1 → S.2.1 i ≠ c) : S.1 < 1296 := by
  obtain ⟨h1, h2, h3, _⟩ := hS
  have := pig 1296 (S.1.toNat + 1) (fun i => if (i : Int) < S.1 then (ix (S.2.1 i)).toNat else (ix c).toNat) (fun i hi => by
    (try dsimp only)
    split
    · have := (hx.1 _ (h2 i (by omega) (by omega))).2; omega
    · have := (hx.1 _ hc).2; omega) (fun i j hi hj he => by
    (try dsimp only at he)
    have key : ∀ a b : Int, vc a → vc b → (ix a).toNat = (ix b).toNat → a = b := fun a b ha hb hab => by
      have g1 := (hx.1 a ha).2
      have g2 := (hx.1 b hb).2
      exact hx.2 a b ha hb (by omega)
    split at he <;> split at he
    · have := h3 i j (by omega) (by omega) (by omega) (by omega) (key _ _ (h2 i (by omega) (by omega)) (h2 j (by omega) (by omega)) he)
      omega
    · exact absurd (key _ _ (h2 i (by omega) (by omega)) hc he) (hn i (by omega) (by omega))
    · exact absurd (key _ _ hc (h2 j (by omega) (by omega)) he).symm (hn j (by omega) (by omega))
    · omega)
  omega
/-- later stages of a search keep what is there -/
def BLe (S S' : BS) : Prop := S.1 ≤ S'.1 ∧ ∀ i, 0 ≤ i → i < S.1 → S'.2.1 i = S.2.1 i ∧ S'.2.2 i = S.2.2 i
theorem ble_r {S : BS} : BLe S S := ⟨Int.le_refl _, fun _ _ _ => ⟨rfl, rfl⟩⟩
theorem ble_t {S S' S2 : BS} (h1 : BLe S S') (h2 : BLe S' S2) : BLe S S2 := ⟨Int.le_trans h1.1 h2.1, fun i hi hi2 => by
  have a := h1.2 i hi hi2
  have b := h2.2 i hi (by have := h1.1; omega)
  exact ⟨b.1.trans a.1, b.2.trans a.2⟩⟩
theorem bMeet_ok {vc : Int → Prop} {ix : Int → Int} {nx : Int → Int → Int} {L c k l : Int} {S : BS} (hx : Ix vc ix) (hS : BOk vc nx L S) (hc : vc c) (hk : 0 ≤ k) (hk2 : k < S.1) (hl : 0 ≤ l) (hl2 : l < L) (hL : L ≤ 4) (he : nx (S.2.1 k) l = c) : BOk vc nx L (bMeet c (k * 4 + l) S) ∧ BLe S (bMeet c (k * 4 + l) S) ∧ (bPl S c = 0 → S.1 < 1296) := by
  have hS2 := hS
  obtain ⟨h1, h2, h3, h4, h5⟩ := hS
  unfold bMeet
  rcases bPl_cases (c := c) (show 0 ≤ S.1 by omega) with z | z
  · have hr := b_room hx hS2 hc z.2
    rw [if_pos z.1]
    unfold bAdd
    refine ⟨⟨⟨by dsimp only; omega, by dsimp only; omega⟩, fun i hi hi2 => ?_, fun i j hi hi2 hj hj2 hij => ?_, ?_, fun i hi hi2 => ?_⟩, ⟨by dsimp only; omega, fun i hi hi2 => ⟨up1_k (by omega), up1_k (by omega)⟩⟩, fun _ => hr⟩
    · dsimp only at hi2 ⊢
      by_cases hn : i = S.1
      · rw [hn, up1_s]; exact hc
      · rw [up1_k hn]; exact h2 i hi (by omega)
    · dsimp only at hi2 hj2 hij
      by_cases hn : i = S.1
      · by_cases hm : j = S.1
        · omega
        · rw [hn, up1_s, up1_k hm] at hij
          exact absurd hij.symm (z.2 j hj (by omega))
      · by_cases hm : j = S.1
        · rw [hm, up1_s, up1_k hn] at hij
          exact absurd hij (z.2 i hi (by omega))
        · rw [up1_k hn, up1_k hm] at hij
          exact h3 i j hi (by omega) hj (by omega) hij
    · dsimp only
      rw [up1_k (by omega)]
      exact h4
    · dsimp only at hi2 ⊢
      by_cases hn : i = S.1
      · rw [hn, up1_s, up1_s, show (k * 4 + l) / 4 = k from by omega, show (k * 4 + l) % 4 = l from by omega, up1_k (by omega)]
        exact ⟨by omega, by omega, by omega, he⟩
      · have h6 := h5 i hi (by omega)
        rw [up1_k hn, up1_k hn, up1_k (by omega)]
        exact h6
  · rw [if_neg (by omega)]
    exact ⟨hS2, ble_r, fun q => absurd q (by omega)⟩
theorem bLet_ok {vc : Int → Prop} {ix : Int → Int} {nx : Int → Int → Int} {L k l : Int} {S : BS} (hx : Ix vc ix) (hv : ∀ c l, vc c → 0 ≤ l → l < L → nx c l ≠ -1 → vc (nx c l)) (hS : BOk vc nx L S) (hk : 0 ≤ k) (hk2 : k < S.1) (hl : 0 ≤ l) (hl2 : l < L) (hL : L ≤ 4) : BOk vc nx L (bLet nx k l S) ∧ BLe S (bLet nx k l S) := by
  unfold bLet
  by_cases h : nx (S.2.1 k) l = -1
  · rw [if_pos h]; exact ⟨hS, ble_r⟩
  · rw [if_neg h]
    have := bMeet_ok hx hS (hv _ _ (hS.2.1 k hk hk2) hl hl2 h) hk hk2 hl hl2 hL rfl
    exact ⟨this.1, this.2.1⟩
theorem bPlc_ok {vc : Int → Prop} {ix : Int → Int} {nx : Int → Int → Int} {L k : Int} {S : BS} (hx : Ix vc ix) (hv : ∀ c l, vc c → 0 ≤ l → l < L → nx c l ≠ -1 → vc (nx c l)) (hS : BOk vc nx L S) (hk : 0 ≤ k) (hk2 : k < S.1) (hL : L ≤ 4) : ∀ n : Nat, (n : Int) ≤ L → BOk vc nx L (upto (bLet nx k) n S) ∧ BLe S (upto (bLet nx k) n S)
  | 0, _ => ⟨hS, ble_r⟩
  | n + 1, hn => by
    have ih := bPlc_ok hx hv hS hk hk2 hL n (by omega)
    have := bLet_ok (l := n) hx hv ih.1 hk (by have := ih.2.1; omega) (by omega) (by omega) hL
    exact ⟨this.1, ble_t ih.2 this.2⟩
theorem bS0_ok {vc : Int → Prop} {nx : Int → Int → Int} {L : Int} (h0 : vc 0) : BOk vc nx L bS0 := by
  have e : bS0 = (1, up1 (fun _ => 0) 0 0, up1 (fun _ => 0) 0 0) := by
    unfold bS0 bMeet bAdd
    rw [if_pos (by rfl)]
    rfl
  rw [e]
  refine ⟨by dsimp only; omega, fun i hi hi2 => ?_, fun i j hi hi2 hj hj2 _ => ?_, by show up1 (fun _ => (0 : Int)) 0 0 0 = 0; exact up1_s, fun i hi hi2 => ?_⟩
  · dsimp only at hi2 ⊢
    rw [show i = 0 from by omega, up1_s]
    exact h0
  · dsimp only at hi2 hj2; omega
  · dsimp only at hi2; omega
def CRel (h : PF) (S : BS) : Prop := h 15 3 = S.1 ∧ (∀ i, 0 ≤ i → i < S.1 → h 17 i = S.2.1 i ∧ h 18 i = S.2.2 i) ∧ ∀ c, 0 ≤ c → c < 2401 → h 16 c = bPl S c
theorem crel_ok {vc : Int → Prop} {ix : Int → Int} {nx : Int → Int → Int} {L : Int} {h : PF} {S : BS} (hx : Ix vc ix) (hS : BOk vc nx L S) (hC : CRel h S) : SearchOk h := by
  obtain ⟨h1, h2, h3⟩ := hC
  have h4 := hS.1
  refine ⟨by omega, fun i hi hi2 => ?_, fun c hc hc2 hne => ?_⟩
  · rw [(h2 i hi (by omega)).1]
    exact (hx.1 _ (hS.2.1 i hi (by omega))).1
  · rw [h3 c hc hc2] at hne
    rcases bPl_cases (c := c) (show 0 ≤ S.1 by omega) with z | z
    · exact absurd z.1 hne
    · exact ⟨bPl S c - 1, by omega, by omega, by rw [(h2 _ (by omega) (by omega)).1]; exact z.2.2⟩

theorem C_meet {c p : Int} {S : BS} {nx : Nat} {h r : PF} {s : Int → Int} {Q : PO → PY → Nat → PC → Prop} (hW : WFr r) (hC : CRel h S) (h0 : 0 ≤ S.1) (hc : 0 ≤ c) (hc2 : c < 2401) (hn : bPl S c = 0 → S.1 < 1296) (hn2 : S.1 ≤ 1296) (K : ∀ h' : PF, (∀ a, a < 15 ∨ 18 < a → h' a = h a) → h' 15 6 = h 15 6 → h' 15 7 = h 15 7 → CRel h' (bMeet c p S) → Q (Sum.inl none) LY nx (h', r, s)) : Wp 48 0 [some (pR 15), some (pI c), some (pI p)] [] LY nx (h, r, s) Q := by
  obtain ⟨h1, h2, h3⟩ := hC
  have e16 := h3 c hc hc2
  unfold bMeet at K
  by_cases hz : bPl S c = 0
  · have hr := hn hz
    rw [if_pos hz] at K
    simp (disch := first | assumption | omega) only [st_X4_meet, ↓if_pos, ↓if_neg, if_pos, if_neg, ↓reduceIte, true_and, and_true, false_and, and_false, true_or, or_true, false_or, or_false, w32_id, Kv, Kn, fup_s, fup_a, fup_k, fup_fup, Int.reduceAdd, Int.reduceSub, Int.reduceMul, Int.reduceNeg, h1, e16, hz]
    refine K _ (fun a ha => by simp (disch := omega) only [fup_r]) (by simp (disch := omega) only [fup_s, fup_k, fup_a]) (by simp (disch := omega) only [fup_s, fup_k, fup_a]) ⟨?_, fun i hi hi2 => ?_, fun c' hc' hc2' => ?_⟩
    · simp (disch := omega) only [fup_s, fup_k, fup_a]
      rfl
    · unfold bAdd at hi2 ⊢
      dsimp only at hi2 ⊢
      by_cases hi3 : i = S.1
      · rw [hi3, up1_s, up1_s]
        exact ⟨by simp (disch := omega) only [fup_s, fup_k, fup_a], by simp (disch := omega) only [fup_s, fup_k, fup_a]⟩
      · have h4 := h2 i hi (by omega)
        rw [up1_k hi3, up1_k hi3]
        exact ⟨by simp (disch := omega) only [fup_s, fup_k, fup_a]; exact h4.1, by simp (disch := omega) only [fup_s, fup_k, fup_a]; exact h4.2⟩
    · rw [bPl_add h0]
      by_cases he : c' = c
      · rw [if_pos he, he]
        simp (disch := omega) only [fup_s, fup_k, fup_a]
      · rw [if_neg he]
        simp (disch := omega) only [fup_s, fup_k, fup_a]
        exact h3 c' hc' hc2'
  · rw [if_neg hz] at K
    have hz2 : bPl S c ≠ 0 := hz
    simp (disch := first | assumption | omega) only [st_X4_meet, ↓if_pos, ↓if_neg, if_pos, if_neg, ↓reduceIte, true_and, and_true, false_and, and_false, true_or, or_true, false_or, or_false, w32_id, Kv, Kn, fup_s, fup_a, fup_k, fup_fup, Int.reduceAdd, Int.reduceSub, Int.reduceMul, Int.reduceNeg, h1, e16]
    exact K h (fun _ _ => rfl) rfl rfl ⟨h1, h2, h3⟩
theorem C_begin {set ap : Int} {nx : Nat} {h r : PF} {s : Int → Int} {Q : PO → PY → Nat → PC → Prop} (hW : WFr r) (hF : SearchOk h) (hap : ap = 0 ∨ ap = 1) (K : ∀ h' : PF, (∀ a, a < 15 ∨ 18 < a → h' a = h a) → h' 15 6 = set → h' 15 7 = ap → CRel h' bS0 → Q (Sum.inl none) LY nx (h', r, s)) : Wp 47 0 [some (pR 15), some (pI set), some (pI ap), none] [] LY nx (h, r, s) Q := by
  obtain ⟨f1, f2, f3⟩ := hF
  simp (disch := first | assumption | omega) only [st_X4_begin, ↓if_pos, ↓if_neg, if_pos, if_neg, ↓reduceIte, true_and, and_true, false_and, and_false, true_or, or_true, false_or, or_false, w32_id, Kv, Kn, fup_s, fup_a, fup_k, fup_fup, Int.reduceAdd, Int.reduceSub, Int.reduceMul, Int.reduceNeg]
  refine loopW (Inv := fun i L H R => L = [some (pR 15), some (pI set), some (pI ap), some (pI i)] ∧ R = r ∧ (∀ a, a ≠ 16 → H a = h a) ∧ (∀ c, 0 ≤ c → c < 2401 → H 16 c = h 16 c ∨ H 16 c = 0) ∧ ∀ j, 0 ≤ j → j < i → H 16 (h 17 j) = 0) (a := 0) (n := h 15 3) (by omega) ?_ ?_ _ _ _ ⟨rfl, rfl, fun _ _ => rfl, fun _ _ _ => Or.inl rfl, fun j h1 h2 => absurd h2 (by omega)⟩
  · rintro i L H R hi hi2 ⟨rfl, rfl, hf, hz, hd⟩ hK
    have e15 : H 15 = h 15 := hf 15 (by omega)
    have e17 : H 17 = h 17 := hf 17 (by omega)
    have h17 := f2 i hi hi2
    have hKK := hK _ (fup H 16 (h 17 i) 0) _ ⟨rfl, rfl, fun a ha => by rw [fup_r ha]; exact hf a ha, fun c hc hc2 => by
      by_cases he : c = h 17 i
      · rw [he, fup_s]; exact Or.inr rfl
      · rw [fup_k he]; exact hz c hc hc2, fun j hj hj2 => by
      by_cases he : h 17 j = h 17 i
      · rw [he, fup_s]
      · rw [fup_k he]
        by_cases hji : j = i
        · rw [hji] at he; exact absurd rfl he
        · exact hd j hj (by omega)⟩
    rw [sh_X4_begin_2]
    simp (disch := first | assumption | omega) only [st_X4_begin, ↓if_pos, ↓if_neg, if_pos, if_neg, ↓reduceIte, true_and, and_true, false_and, and_false, true_or, or_true, false_or, or_false, w32_id, Kv, Kn, fup_s, fup_a, fup_k, fup_fup, Int.reduceAdd, Int.reduceSub, Int.reduceMul, Int.reduceNeg, e15, e17]
    exact hKK
  · rintro L H R ⟨rfl, rfl, hf, hz, hd⟩
    have e15 : H 15 = h 15 := hf 15 (by omega)
    have z16 : ∀ c, 0 ≤ c → c < 2401 → H 16 c = 0 := by
      intro c hc hc2
      rcases hz c hc hc2 with z | z
      · by_cases h0 : h 16 c = 0
        · omega
        · obtain ⟨j, hj, hj2, he⟩ := f3 c hc hc2 h0
          rw [← he]
          exact hd j hj hj2
      · exact z
    rw [sh_X4_begin_2]
    simp (disch := first | assumption | omega) only [st_X4_begin, ↓if_pos, ↓if_neg, if_pos, if_neg, ↓reduceIte, true_and, and_true, false_and, and_false, true_or, or_true, false_or, or_false, w32_id, Kv, Kn, fup_s, fup_a, fup_k, fup_fup, Int.reduceAdd, Int.reduceSub, Int.reduceMul, Int.reduceNeg, e15]
    refine C_meet (S := (0, fun _ => 0, fun _ => 0)) hW ⟨?_, fun i h1 h2 => absurd h2 (by dsimp only; omega), fun c hc hc2 => ?_⟩ (by dsimp only; omega) (by omega) (by omega) (fun _ => by dsimp only; omega) (by dsimp only; omega) (fun h' g1 g2 g3 g4 => ?_)
    · simp (disch := omega) only [fup_s, fup_k, fup_a]
    · simp (disch := omega) only [fup_s, fup_k, fup_a]
      exact z16 c hc hc2
    · simp (disch := omega) only [fup_s, fup_k, fup_a] at g2 g3
      simp (disch := first | assumption | omega) only [st_X4_begin, ↓if_pos, ↓if_neg, if_pos, if_neg, ↓reduceIte, true_and, and_true, false_and, and_false, true_or, or_true, false_or, or_false, w32_id, Kv, Kn, fup_s, fup_a, fup_k, fup_fup, Int.reduceAdd, Int.reduceSub, Int.reduceMul, Int.reduceNeg]
      exact K h' (fun a ha => by rw [g1 a ha]; simp (disch := omega) only [fup_r]; exact hf a (by omega)) g2 g3 g4
theorem C_explore {p set ap fs : Int} {T : Int → Int} {ix : Int → Int} {S0 : BS} {nx : Nat} {h r : PF} {s : Int → Int} {Q : PO → PY → Nat → PC → Prop} (hW : WFr r) (hP : PlOk r p) (hp20 : 20 < p) (hT : TWf T) (hR : PlanRel h p T) (e6 : h 15 6 = set) (e7 : h 15 7 = ap) (hap : ap = 0 ∨ ap = 1) (hfs : fs = 0 ∨ fs = 1) (hx : Ix (VC T set ap) ix) (hC : CRel h S0) (hB : BOk (VC T set ap) (gSt T set ap) (T 0) S0) (K : ∀ h' : PF, (∀ a, a < 15 ∨ 18 < a → h' a = h a) → h' 15 6 = set → h' 15 7 = ap → CRel h' (bRun (gSt T set ap) (T 0).toNat (gFd T set ap) fs 1296 0 S0).2 → BOk (VC T set ap) (gSt T set ap) (T 0) (bRun (gSt T set ap) (T 0).toNat (gFd T set ap) fs 1296 0 S0).2 → BLe S0 (bRun (gSt T set ap) (T 0).toNat (gFd T set ap) fs 1296 0 S0).2 → Q (Sum.inl (some (pI (bRun (gSt T set ap) (T 0).toNat (gFd T set ap) fs 1296 0 S0).1))) LY nx (h', r, s)) : Wp 49 0 [some (pR 15), some (pR p), some (pI fs), none, none, none] [] LY nx (h, r, s) Q := by
  have hT0 := hT.1
  have hT1 := hT.2.1
  have hP0 := hP.1.1
  have hPk := hP.1.2
  have hv : ∀ c l, VC T set ap c → 0 ≤ l → l < T 0 → gSt T set ap c l ≠ -1 → VC T set ap (gSt T set ap c l) := fun c l _ h1 h2 h3 => vc_st hT h1 (by omega) h3
  simp (disch := first | assumption | omega) only [st_X4_explore, ↓if_pos, ↓if_neg, if_pos, if_neg, ↓reduceIte, true_and, and_true, false_and, and_false, true_or, or_true, false_or, or_false, w32_id, Kv, Kn, fup_s, fup_a, fup_k, fup_fup, Int.reduceAdd, Int.reduceSub, Int.reduceMul, Int.reduceNeg]
  refine loopW (Inv := fun k L H R => ∃ (S : BS) (x4 x5 : Option PV), L = [some (pR 15), some (pR p), some (pI fs), some (pI k), x4, x5] ∧ R = r ∧ (∀ a, a < 15 ∨ 18 < a → H a = h a) ∧ H 15 6 = set ∧ H 15 7 = ap ∧ CRel H S ∧ BOk (VC T set ap) (gSt T set ap) (T 0) S ∧ BLe S0 S ∧ bRun (gSt T set ap) (T 0).toNat (gFd T set ap) fs (1296 - k.toNat) k S = bRun (gSt T set ap) (T 0).toNat (gFd T set ap) fs 1296 0 S0) (a := 0) (n := 1296) (by omega) ?_ ?_ _ _ _ ⟨S0, none, none, rfl, rfl, fun _ _ => rfl, e6, e7, hC, hB, ble_r, rfl⟩
  · rintro k L H R hk hk2 ⟨S, x4, x5, rfl, rfl, hf, g6, g7, hCS, hBS, hLe, hrun⟩ hK
    have eN : 1296 - k.toNat = (1296 - (k + 1).toNat) + 1 := by omega
    rw [eN] at hrun
    have hc3 := hCS.1
    have hRH : PlanRel H p T := pr_fr (fun a h1 h2 => hf a (by omega)) hR
    have ep0 : H p 0 = T 0 := hRH.1.1
    rw [sh_X4_explore_2]
    by_cases hkn : k < S.1
    · have hck := (hCS.2.1 k hk hkn).1
      have hvc := hBS.2.1 k hk hkn
      have inner : bRun (gSt T set ap) (T 0).toNat (gFd T set ap) fs (1296 - (k + 1).toNat) (k + 1) (bPlc (gSt T set ap) (T 0).toNat k S) = bRun (gSt T set ap) (T 0).toNat (gFd T set ap) fs 1296 0 S0 → ∀ (x5 : Option PV), Wp 49 40 [some (pR 15), some (pR p), some (pI fs), some (pI k), some (pI 0), x5] [] LY nx (H, R, s) Q := by
        intro hrun2 x5
        refine loopW (Inv := fun l L H2 R2 => ∃ (x5 : Option PV), L = [some (pR 15), some (pR p), some (pI fs), some (pI k), some (pI l), x5] ∧ R2 = R ∧ (∀ a, a < 15 ∨ 18 < a → H2 a = h a) ∧ H2 15 6 = set ∧ H2 15 7 = ap ∧ CRel H2 (upto (bLet (gSt T set ap) k) l.toNat S)) (a := 0) (n := T 0) (by omega) ?_ ?_ _ _ _ ⟨x5, rfl, rfl, hf, g6, g7, hCS⟩
        · rintro l L2 H2 R2 hl hl2 ⟨x5, rfl, rfl, hf2, q6, q7, hC2⟩ hK2
          have hB2 := bPlc_ok hx hv hBS hk hkn (by omega) l.toNat (by omega)
          have hR2 : PlanRel H2 p T := pr_fr (fun a h1 h2 => hf2 a (by omega)) hR
          have ep02 : H2 p 0 = T 0 := hR2.1.1
          have hl1 := hB2.2.1
          have hw : (upto (bLet (gSt T set ap) k) l.toNat S).2.1 k = S.2.1 k := (hB2.2.2 k hk hkn).1
          have hck2 := (hC2.2.1 k hk (by omega)).1
          rw [hw] at hck2
          have eb : upto (bLet (gSt T set ap) k) (l + 1).toNat S = bLet (gSt T set ap) k l (upto (bLet (gSt T set ap) k) l.toNat S) := upto_s hl
          have eb2 : bLet (gSt T set ap) k l (upto (bLet (gSt T set ap) k) l.toNat S) = if gSt T set ap (S.2.1 k) l = -1 then upto (bLet (gSt T set ap) k) l.toNat S else bMeet (gSt T set ap (S.2.1 k) l) (k * 4 + l) (upto (bLet (gSt T set ap) k) l.toNat S) := by
            rw [bLet_eq, hw]
          rw [eb2] at eb
          rw [eb] at hK2
          rw [sh_X4_explore_40]
          by_cases hs : gSt T set ap (S.2.1 k) l = -1
          · rw [if_pos hs] at hK2
            have hKK := hK2 _ _ _ ⟨some (pI (gSt T set ap (S.2.1 k) l)), rfl, rfl, hf2, q6, q7, hC2⟩
            rw [hs] at hKK
            simp (disch := first | assumption | omega) only [st_X4_explore, ↓if_pos, ↓if_neg, if_pos, if_neg, ↓reduceIte, true_and, and_true, false_and, and_false, true_or, or_true, false_or, or_false, w32_id, Kv, Kn, fup_s, fup_a, fup_k, fup_fup, Int.reduceAdd, Int.reduceSub, Int.reduceMul, Int.reduceNeg, ep02, hck2, C_step hP hT hR2 q6 q7 hap hvc.1.1 hvc.1.2 hl, hs]
            exact hKK
          · rw [if_neg hs] at hK2
            have hvs := hv _ l hvc hl hl2 hs
            have hm := bMeet_ok hx hB2.1 hvs hk (by omega) hl hl2 (by omega) (by rw [hw])
            simp (disch := first | assumption | omega) only [st_X4_explore, ↓if_pos, ↓if_neg, if_pos, if_neg, ↓reduceIte, true_and, and_true, false_and, and_false, true_or, or_true, false_or, or_false, w32_id, Kv, Kn, fup_s, fup_a, fup_k, fup_fup, Int.reduceAdd, Int.reduceSub, Int.reduceMul, Int.reduceNeg, ep02, hck2, C_step hP hT hR2 q6 q7 hap hvc.1.1 hvc.1.2 hl]
            refine C_meet hW hC2 (by omega) hvs.1.1 hvs.1.2 hm.2.2 hB2.1.1.2 (fun h' u1 u2 u3 u4 => ?_)
            simp (disch := first | assumption | omega) only [st_X4_explore, ↓if_pos, ↓if_neg, if_pos, if_neg, ↓reduceIte, true_and, and_true, false_and, and_false, true_or, or_true, false_or, or_false, w32_id, Kv, Kn, fup_s, fup_a, fup_k, fup_fup, Int.reduceAdd, Int.reduceSub, Int.reduceMul, Int.reduceNeg]
            exact hK2 _ _ _ ⟨_, rfl, rfl, fun a ha => by rw [u1 a ha]; exact hf2 a ha, u2.trans q6, u3.trans q7, u4⟩
        · rintro L2 H2 R2 ⟨x5, rfl, rfl, hf2, q6, q7, hC2⟩
          have hB2 := bPlc_ok hx hv hBS hk hkn (by omega) (T 0).toNat (by omega)
          have hR2 : PlanRel H2 p T := pr_fr (fun a h1 h2 => hf2 a (by omega)) hR
          have ep02 : H2 p 0 = T 0 := hR2.1.1
          have hKK := hK _ H2 R2 ⟨bPlc (gSt T set ap) (T 0).toNat k S, some (pI (T 0)), x5, rfl, rfl, hf2, q6, q7, hC2, hB2.1, ble_t hLe hB2.2, hrun2⟩
          rw [sh_X4_explore_40]
          simp (disch := first | assumption | omega) only [st_X4_explore, ↓if_pos, ↓if_neg, if_pos, if_neg, ↓reduceIte, true_and, and_true, false_and, and_false, true_or, or_true, false_or, or_false, w32_id, Kv, Kn, fup_s, fup_a, fup_k, fup_fup, Int.reduceAdd, Int.reduceSub, Int.reduceMul, Int.reduceNeg, ep02]
          exact hKK
      rw [bRun_s (1296 - (k + 1).toNat) k S] at hrun
      rw [if_pos hkn] at hrun
      rcases hfs with hfs0 | hfs1
      · subst hfs0
        rw [if_neg (fun z => z.1 rfl)] at hrun
        simp (disch := first | assumption | omega) only [st_X4_explore, ↓if_pos, ↓if_neg, if_pos, if_neg, ↓reduceIte, true_and, and_true, false_and, and_false, true_or, or_true, false_or, or_false, w32_id, Kv, Kn, fup_s, fup_a, fup_k, fup_fup, Int.reduceAdd, Int.reduceSub, Int.reduceMul, Int.reduceNeg, hc3]
        exact inner hrun _
      · subst hfs1
        by_cases hfd : gFd T set ap (S.2.1 k) = 1
        · rw [if_pos ⟨by decide, hfd⟩] at hrun
          have hKK := K H hf g6 g7
          rw [← hrun] at hKK
          have hKK2 := hKK hCS hBS hLe
          simp (disch := first | assumption | omega) only [st_X4_explore, ↓if_pos, ↓if_neg, if_pos, if_neg, ↓reduceIte, true_and, and_true, false_and, and_false, true_or, or_true, false_or, or_false, w32_id, Kv, Kn, fup_s, fup_a, fup_k, fup_fup, Int.reduceAdd, Int.reduceSub, Int.reduceMul, Int.reduceNeg, hc3, hck, C_isFound hP hT hRH g6 g7 hap hvc.1.1 hvc.1.2, hfd]
          exact hKK2
        · have hfd0 : gFd T set ap (S.2.1 k) = 0 := by
            rcases gFd_01 with z | z
            · exact absurd z hfd
            · exact z
          rw [if_neg (fun z => hfd z.2)] at hrun
          simp (disch := first | assumption | omega) only [st_X4_explore, ↓if_pos, ↓if_neg, if_pos, if_neg, ↓reduceIte, true_and, and_true, false_and, and_false, true_or, or_true, false_or, or_false, w32_id, Kv, Kn, fup_s, fup_a, fup_k, fup_fup, Int.reduceAdd, Int.reduceSub, Int.reduceMul, Int.reduceNeg, hc3, hck, C_isFound hP hT hRH g6 g7 hap hvc.1.1 hvc.1.2, hfd0]
          exact inner hrun _
    · rw [bRun_s (1296 - (k + 1).toNat) k S] at hrun
      rw [if_neg hkn] at hrun
      have hKK := K H hf g6 g7
      rw [← hrun] at hKK
      have hKK2 := hKK hCS hBS hLe
      simp (disch := first | assumption | omega) only [st_X4_explore, ↓if_pos, ↓if_neg, if_pos, if_neg, ↓reduceIte, true_and, and_true, false_and, and_false, true_or, or_true, false_or, or_false, w32_id, Kv, Kn, fup_s, fup_a, fup_k, fup_fup, Int.reduceAdd, Int.reduceSub, Int.reduceMul, Int.reduceNeg, hc3]
      exact hKK2
  · rintro L H R ⟨S, x4, x5, rfl, rfl, hf, g6, g7, hCS, hBS, hLe, hrun⟩
    have hrun2 : ((-1 : Int), S) = bRun (gSt T set ap) (T 0).toNat (gFd T set ap) fs 1296 0 S0 := hrun
    have hKK := K H hf g6 g7
    rw [← hrun2] at hKK
    have hKK2 := hKK hCS hBS hLe
    rw [sh_X4_explore_2]
    simp (disch := first | assumption | omega) only [st_X4_explore, ↓if_pos, ↓if_neg, if_pos, if_neg, ↓reduceIte, true_and, and_true, false_and, and_false, true_or, or_true, false_or, or_false, w32_id, Kv, Kn, fup_s, fup_a, fup_k, fup_fup, Int.reduceAdd, Int.reduceSub, Int.reduceMul, Int.reduceNeg]
    exact hKK2
/-- how many letters lead to a place -/
def depF (o : Int → Int) : Nat → Int → Int
  | 0, _ => 0
  | f + 1, i => if i ≤ 0 then 0 else 1 + depF o f (o i / 4)
def dep (o : Int → Int) (i : Int) : Int := depF o i.toNat i
def Par (o : Int → Int) (n : Int) : Prop := ∀ i, 1 ≤ i → i < n → 0 ≤ o i ∧ o i / 4 < i
theorem depF_st {o : Int → Int} {n : Int} (ho : Par o n) : ∀ (f : Nat) (i : Int), 0 ≤ i → i < n → i ≤ f → depF o f i = dep o i
  | 0, i, h1, h2, h3 => by
    have : i = 0 := by omega
    subst this
    rfl
  | f + 1, i, h1, h2, h3 => by
    by_cases h0 : i = 0
    · subst h0
      rfl
    · have hp := ho i (by omega) h2
      have e : i.toNat = (i.toNat - 1) + 1 := by omega
      unfold dep
      rw [e]
      unfold depF
      rw [if_neg (by omega), if_neg (by omega), depF_st ho f (o i / 4) (by omega) (by omega) (by omega), depF_st ho (i.toNat - 1) (o i / 4) (by omega) (by omega) (by omega)]
theorem dep_0 {o : Int → Int} : dep o 0 = 0 := rfl
theorem dep_s {o : Int → Int} {n i : Int} (ho : Par o n) (h1 : 1 ≤ i) (h2 : i < n) : dep o i = 1 + dep o (o i / 4) := by
  have hp := ho i h1 h2
  have e := depF_st ho ((i.toNat - 1) + 1) i (by omega) h2 (by omega)
  rw [← e]
  unfold depF
  rw [if_neg (by omega), depF_st ho (i.toNat - 1) (o i / 4) (by omega) (by omega) (by omega)]
theorem dep_rng {o : Int → Int} {n : Int} (ho : Par o n) : ∀ (f : Nat) (i : Int), 0 ≤ i → i < n → i ≤ f → 0 ≤ dep o i ∧ dep o i ≤ i
  | 0, i, h1, h2, h3 => by
    have : i = 0 := by omega
    subst this
    rw [dep_0]; omega
  | f + 1, i, h1, h2, h3 => by
    by_cases h0 : i = 0
    · subst h0
      rw [dep_0]; omega
    · have hp := ho i (by omega) h2
      have ih := dep_rng ho f (o i / 4) (by omega) (by omega) (by omega)
      rw [dep_s ho (by omega) h2]
      omega
def anc (o : Int → Int) : Nat → Int → Int
  | 0, i => i
  | j + 1, i => o (anc o j i) / 4
theorem anc_dep {o : Int → Int} {n i : Int} (ho : Par o n) (h1 : 0 ≤ i) (h2 : i < n) : ∀ j : Nat, (j : Int) ≤ dep o i → (0 ≤ anc o j i ∧ anc o j i < n) ∧ dep o (anc o j i) = dep o i - j
  | 0, _ => ⟨⟨h1, h2⟩, by show dep o i = dep o i - ((0 : Nat) : Int); omega⟩
  | j + 1, hj => by
    have ih := anc_dep ho h1 h2 j (by omega)
    have h3 : anc o j i ≠ 0 := by
      intro z
      rw [z, dep_0] at ih
      omega
    have hp := ho (anc o j i) (by omega) ih.1.2
    have hs := dep_s ho (show 1 ≤ anc o j i by omega) ih.1.2
    show (0 ≤ o (anc o j i) / 4 ∧ o (anc o j i) / 4 < n) ∧ dep o (o (anc o j i) / 4) = dep o i - ((j + 1 : Nat) : Int)
    omega
theorem bok_par {vc : Int → Prop} {nx : Int → Int → Int} {L : Int} {S : BS} (hS : BOk vc nx L S) : Par S.2.2 S.1 := fun i h1 h2 => ⟨(hS.2.2.2.2 i h1 h2).1, (hS.2.2.2.2 i h1 h2).2.1⟩
theorem bok_o {vc : Int → Prop} {nx : Int → Int → Int} {L : Int} {S : BS} (hS : BOk vc nx L S) (hL : L ≤ 4) {i : Int} (h1 : 1 ≤ i) (h2 : i < S.1) : 0 ≤ S.2.2 i ∧ S.2.2 i < 5184 := by
  have h3 := hS.2.2.2.2 i h1 h2
  have h4 := hS.1
  omega
theorem K_lengthTo {i : Int} {S : BS} {nx : Nat} {h r : PF} {s : Int → Int} {Q : PO → PY → Nat → PC → Prop} (hW : WFr r) (hC : CRel h S) (ho : Par S.2.2 S.1) (hb : ∀ i, 1 ≤ i → i < S.1 → S.2.2 i < 5184) (hn : S.1 ≤ 1296) (hi : -1 ≤ i) (hi2 : i < S.1) (K : Q (Sum.inl (some (pI (if i = -1 then -1 else dep S.2.2 i)))) LY nx (h, r, s)) : Wp 50 0 [some (pR 15), some (pI i), none, none] [] LY nx (h, r, s) Q := by
  by_cases h1 : i = -1
  · rw [if_pos h1] at K
    simp (disch := first | assumption | omega) only [st_X4_lengthTo, ↓if_pos, ↓if_neg, if_pos, if_neg, ↓reduceIte, true_and, and_true, false_and, and_false, true_or, or_true, false_or, or_false, w32_id, Kv, Kn, fup_s, fup_a, fup_k, fup_fup, Int.reduceAdd, Int.reduceSub, Int.reduceMul, Int.reduceNeg, h1]
    exact K
  · rw [if_neg h1] at K
    simp (disch := first | assumption | omega) only [st_X4_lengthTo, ↓if_pos, ↓if_neg, if_pos, if_neg, ↓reduceIte, true_and, and_true, false_and, and_false, true_or, or_true, false_or, or_false, w32_id, Kv, Kn, fup_s, fup_a, fup_k, fup_fup, Int.reduceAdd, Int.reduceSub, Int.reduceMul, Int.reduceNeg]
    have hd := dep_rng ho i.toNat i (by omega) hi2 (by omega)
    refine loopL (Inv := fun j L => ∃ a, (0 ≤ a ∧ a < S.1) ∧ a ≤ i - j ∧ j + dep S.2.2 a = dep S.2.2 i ∧ L = [some (pR 15), some (pI i), some (pI j), some (pI a)]) (a := 0) (n := 1296) (by omega) ?_ ?_ _ ⟨i, by omega, by omega, by omega, rfl⟩
    · rintro j L hj hj2 ⟨a, ha, ha2, hd2, rfl⟩ hK
      rw [sh_X4_lengthTo_11]
      by_cases h0 : a ≤ 0
      · have e : a = 0 := by omega
        rw [e, dep_0] at hd2
        rw [show dep S.2.2 i = j from by omega] at K
        simp (disch := first | assumption | omega) only [st_X4_lengthTo, ↓if_pos, ↓if_neg, if_pos, if_neg, ↓reduceIte, true_and, and_true, false_and, and_false, true_or, or_true, false_or, or_false, w32_id, Kv, Kn, fup_s, fup_a, fup_k, fup_fup, Int.reduceAdd, Int.reduceSub, Int.reduceMul, Int.reduceNeg]
        exact K
      · have hp := ho a (by omega) ha.2
        have hb2 := hb a (by omega) ha.2
        have hs := dep_s ho (show 1 ≤ a by omega) ha.2
        have h18 := (hC.2.1 a (by omega) ha.2).2
        have hpd : pdiv (S.2.2 a) 4 = S.2.2 a / 4 := pdiv_nn hp.1 (by omega) (by omega) (by omega)
        have hKK := hK _ ⟨S.2.2 a / 4, by omega, by omega, by omega, rfl⟩
        simp (disch := first | assumption | omega) only [st_X4_lengthTo, ↓if_pos, ↓if_neg, if_pos, if_neg, ↓reduceIte, true_and, and_true, false_and, and_false, true_or, or_true, false_or, or_false, w32_id, Kv, Kn, fup_s, fup_a, fup_k, fup_fup, Int.reduceAdd, Int.reduceSub, Int.reduceMul, Int.reduceNeg, h18, hpd]
        exact hKK
    · rintro L ⟨a, ha, ha2, hd2, rfl⟩
      omega
theorem C_lengthTo {i : Int} {S : BS} {nx : Nat} {h r : PF} {s : Int → Int} {Q : PO → PY → Nat → PC → Prop} (hW : WFr r) (hC : CRel h S) (ho : Par S.2.2 S.1) (hb : ∀ i, 1 ≤ i → i < S.1 → S.2.2 i < 5184) (hn : S.1 ≤ 1296) (hi : -1 ≤ i) (hi2 : i < S.1) : Wp 50 0 [some (pR 15), some (pI i), none, none] [] LY nx (h, r, s) Q ↔ Q (Sum.inl (some (pI (if i = -1 then -1 else dep S.2.2 i)))) LY nx (h, r, s) := Wp.eq (K_lengthTo hW hC ho hb hn hi hi2 ⟨rfl, rfl, rfl, rfl⟩)
