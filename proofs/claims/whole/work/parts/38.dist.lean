/-! DISTANCES: level by level -/
theorem pshl_ne : ∀ k : Fin 6, pshl 1 ((k.val : Nat) : Int) ≠ 0 := by decide +kernel
theorem pshl_nz {k : Int} (h : 0 ≤ k) (h2 : k < 6) : pshl 1 k ≠ 0 := by
  have := pshl_ne ⟨k.toNat, by omega⟩
  simp only [Int.toNat_of_nonneg h] at this
  exact this
theorem porU (X : Int → Int) {b0 : Int} (hb : 0 ≤ b0) (hb2 : b0 < 64) (hX : ∀ k, 0 ≤ k → k < 6 → X k = pshl 1 k ∨ X k = 0) : ∀ n : Nat, n ≤ 6 → (0 ≤ upto (fun k b => por b (X k)) n b0 ∧ upto (fun k b => por b (X k)) n b0 < 64) ∧ ∀ j : Int, 0 ≤ j → j < 6 → (pand (pshr (upto (fun k b => por b (X k)) n b0) j) 1 = 1 ↔ pand (pshr b0 j) 1 = 1 ∨ (j < n ∧ X j ≠ 0))
  | 0, _ => ⟨⟨hb, hb2⟩, fun j hj hj2 => ⟨fun z => Or.inl z, fun z => by rcases z with z | z; exact z; exact absurd z.1 (by omega)⟩⟩
  | n + 1, hn => by
    have ih := porU X hb hb2 hX n (by omega)
    show (0 ≤ por (upto (fun k b => por b (X k)) n b0) (X n) ∧ por (upto (fun k b => por b (X k)) n b0) (X n) < 64) ∧ ∀ j : Int, 0 ≤ j → j < 6 → (pand (pshr (por (upto (fun k b => por b (X k)) n b0) (X n)) j) 1 = 1 ↔ _)
    generalize upto (fun k b => por b (X k)) n b0 = u at ih ⊢
    rcases hX n (by omega) (by omega) with hx | hx
    · have hnz := pshl_nz (k := n) (by omega) (by omega)
      rw [hx]
      refine ⟨por_rng ih.1.1 ih.1.2 (by omega) (by omega), fun j hj hj2 => ?_⟩
      rw [por_bit ih.1.1 ih.1.2 (by omega) (by omega) hj hj2, ih.2 j hj hj2]
      constructor
      · rintro (z | z | z)
        · subst z; exact Or.inr ⟨by omega, by rw [hx]; exact hnz⟩
        · exact Or.inl z
        · exact Or.inr ⟨by omega, z.2⟩
      · rintro (z | z)
        · exact Or.inr (Or.inl z)
        · by_cases hjn : j = n
          · exact Or.inl hjn
          · exact Or.inr (Or.inr ⟨by omega, z.2⟩)
    · rw [hx, por_0 ih.1.1 ih.1.2]
      refine ⟨ih.1, fun j hj hj2 => ?_⟩
      rw [ih.2 j hj hj2]
      constructor
      · rintro (z | z)
        · exact Or.inl z
        · exact Or.inr ⟨by omega, z.2⟩
      · rintro (z | z)
        · exact Or.inl z
        · by_cases hjn : j = n
          · subst hjn; exact absurd hx z.2
          · exact Or.inr ⟨by omega, z.2⟩
def lev (T N : Int → Int) (m : Int) (k : Nat) (t : Int) : Prop := pand (pshr (gFound T N m k) t) 1 = 1
theorem gEnds_bit {T : Int → Int} {m : Int} (h6 : gO T m 2 ≤ 6) : (0 ≤ gEnds T m ∧ gEnds T m < 64) ∧ ∀ j, 0 ≤ j → j < 6 → (pand (pshr (gEnds T m) j) 1 = 1 ↔ j < gO T m 2 ∧ gS T m j 0 = 1) := by
  have h := porU (fun k => if gS T m k 0 = 1 then pshl 1 k else 0) (b0 := 0) (by omega) (by omega) (fun k hk hk2 => by split; exact Or.inl rfl; exact Or.inr rfl) (gO T m 2).toNat (by omega)
  refine ⟨h.1, fun j hj hj2 => ?_⟩
  have h2 := h.2 j hj hj2
  have e : upto (fun k b => por b (if gS T m k 0 = 1 then pshl 1 k else 0)) (gO T m 2).toNat 0 = gEnds T m := rfl
  rw [e, bit0 hj hj2] at h2
  rw [h2]
  have hnz := pshl_nz hj hj2
  constructor
  · rintro (z | z)
    · omega
    · refine ⟨by omega, ?_⟩
      by_cases hc : gS T m j 0 = 1
      · exact hc
      · exact absurd (if_neg hc) z.2
  · rintro ⟨z1, z2⟩
    exact Or.inr ⟨by omega, by rw [if_pos z2]; exact hnz⟩
theorem gMore_bit {T N : Int → Int} {m set : Int} (h6 : gO T m 2 ≤ 6) (hs : 0 ≤ set) (hs2 : set < 64) : (0 ≤ gMore T N m set ∧ gMore T N m set < 64) ∧ ∀ j, 0 ≤ j → j < 6 → (pand (pshr (gMore T N m set) j) 1 = 1 ↔ pand (pshr set j) 1 = 1 ∨ (j < gO T m 2 ∧ gLeads T N m j set ≠ 0)) := by
  have h := porU (fun k => if gLeads T N m k set ≠ 0 then pshl 1 k else 0) (b0 := set) hs hs2 (fun k hk hk2 => by split; exact Or.inl rfl; exact Or.inr rfl) (gO T m 2).toNat (by omega)
  refine ⟨h.1, fun j hj hj2 => ?_⟩
  have h2 := h.2 j hj hj2
  have e : upto (fun k b => por b (if gLeads T N m k set ≠ 0 then pshl 1 k else 0)) (gO T m 2).toNat set = gMore T N m set := rfl
  rw [e] at h2
  rw [h2]
  have hnz := pshl_nz hj hj2
  constructor
  · rintro (z | z)
    · exact Or.inl z
    · refine Or.inr ⟨by omega, ?_⟩
      intro hc
      exact z.2 (if_neg (fun y => y hc))
  · rintro (z | z)
    · exact Or.inl z
    · exact Or.inr ⟨by omega, by rw [if_pos z.2]; exact hnz⟩
theorem gFound_rng {T N : Int → Int} {m : Int} (h6 : gO T m 2 ≤ 6) : ∀ k : Nat, 0 ≤ gFound T N m k ∧ gFound T N m k < 64
  | 0 => (gEnds_bit h6).1
  | k + 1 => (gMore_bit h6 (gFound_rng h6 k).1 (gFound_rng h6 k).2).1
theorem gLeadsU {T N : Int → Int} {m t set : Int} : ∀ n : Nat, upto (gLeadsF T N m t set) n 0 ≠ 0 ↔ ∃ l : Int, 0 ≤ l ∧ l < n ∧ (0 ≤ gGo T m t l ∧ ¬ (0 < gS T m (gGo T m t l) 1 ∧ gOf N m (5 + (gGo T m t l)) = 0) ∧ pand (pshr set (gGo T m t l)) 1 = 1)
  | 0 => ⟨fun z => absurd rfl z, fun ⟨l, h1, h2, _⟩ => absurd h2 (by omega)⟩
  | n + 1 => by
    have ih := gLeadsU (T := T) (N := N) (m := m) (t := t) (set := set) n
    show gLeadsF T N m t set n (upto (gLeadsF T N m t set) n 0) ≠ 0 ↔ _
    unfold gLeadsF
    by_cases hc : upto (gLeadsF T N m t set) n 0 ≠ 0
    · have hc2 := hc
      unfold gLeadsF at hc2
      rw [if_pos hc2]
      obtain ⟨l, h1, h2, h3⟩ := ih.mp hc
      exact ⟨fun _ => ⟨l, h1, by omega, h3⟩, fun _ => by omega⟩
    · have hc2 := hc
      unfold gLeadsF at hc2
      rw [if_neg hc2]
      by_cases hd : 0 ≤ gGo T m t n ∧ ¬ (0 < gS T m (gGo T m t n) 1 ∧ gOf N m (5 + (gGo T m t n)) = 0) ∧ pand (pshr set (gGo T m t n)) 1 = 1
      · rw [if_pos hd]
        exact ⟨fun _ => ⟨n, by omega, by omega, hd⟩, fun _ => by omega⟩
      · rw [if_neg hd]
        constructor
        · intro z; exact absurd rfl z
        · rintro ⟨l, h1, h2, h3⟩
          by_cases hln : l = n
          · subst hln; exact absurd h3 hd
          · exact absurd (ih.mpr ⟨l, h1, by omega, h3⟩) hc
theorem lev_0 {T N : Int → Int} {m t : Int} (h6 : gO T m 2 ≤ 6) (ht : 0 ≤ t) (ht2 : t < gO T m 2) : lev T N m 0 t ↔ gS T m t 0 = 1 := by
  show pand (pshr (gEnds T m) t) 1 = 1 ↔ _
  rw [(gEnds_bit h6).2 t ht (by omega)]
  exact ⟨fun z => z.2, fun z => ⟨ht2, z⟩⟩
theorem lev_S {T N : Int → Int} {m t : Int} {k : Nat} (h6 : gO T m 2 ≤ 6) (hT0 : 0 ≤ T 0) (ht : 0 ≤ t) (ht2 : t < gO T m 2) : lev T N m (k + 1) t ↔ lev T N m k t ∨ ∃ l : Int, 0 ≤ l ∧ l < T 0 ∧ 0 ≤ gGo T m t l ∧ ¬ (0 < gS T m (gGo T m t l) 1 ∧ gOf N m (5 + (gGo T m t l)) = 0) ∧ lev T N m k (gGo T m t l) := by
  show pand (pshr (gMore T N m (gFound T N m k)) t) 1 = 1 ↔ pand (pshr (gFound T N m k) t) 1 = 1 ∨ _
  have hr := gFound_rng (T := T) (N := N) (m := m) h6 k
  rw [(gMore_bit h6 hr.1 hr.2).2 t ht (by omega)]
  have hl := gLeadsU (T := T) (N := N) (m := m) (t := t) (set := gFound T N m k) (T 0).toNat
  have e : upto (gLeadsF T N m t (gFound T N m k)) (T 0).toNat 0 = gLeads T N m t (gFound T N m k) := rfl
  rw [e] at hl
  rw [hl]
  constructor
  · rintro (z | ⟨_, l, z1, z2, z3⟩)
    · exact Or.inl z
    · exact Or.inr ⟨l, z1, by omega, z3⟩
  · rintro (z | ⟨l, z1, z2, z3⟩)
    · exact Or.inl z
    · exact Or.inr ⟨ht2, l, z1, by omega, z3⟩
def gD (T N : Int → Int) (m t : Int) : Nat → Int
  | 0 => if pand (pshr (gFound T N m 0) t) 1 = 1 then 0 else -1
  | k + 1 => if gD T N m t k ≠ -1 then gD T N m t k else if pand (pshr (gFound T N m (k + 1)) t) 1 = 1 then ((k + 1 : Nat) : Int) else -1
theorem gD_rng {T N : Int → Int} {m t : Int} : ∀ k : Nat, -1 ≤ gD T N m t k ∧ gD T N m t k ≤ k
  | 0 => by unfold gD; split <;> omega
  | k + 1 => by
    have ih := gD_rng (T := T) (N := N) (m := m) (t := t) k
    unfold gD
    (repeat' split) <;> omega
theorem gD_stay {T N : Int → Int} {m t : Int} {k : Nat} (h : gD T N m t k ≠ -1) : ∀ i : Nat, gD T N m t (k + i) = gD T N m t k
  | 0 => rfl
  | i + 1 => by
    have ih := gD_stay h i
    show (if gD T N m t (k + i) ≠ -1 then gD T N m t (k + i) else _) = _
    rw [ih, if_pos h]
theorem lev_mono {T N : Int → Int} {m t : Int} {k : Nat} (h6 : gO T m 2 ≤ 6) (hT0 : 0 ≤ T 0) (ht : 0 ≤ t) (ht2 : t < gO T m 2) (h : lev T N m k t) : lev T N m (k + 1) t := (lev_S h6 hT0 ht ht2).mpr (Or.inl h)
theorem gD_lev {T N : Int → Int} {m t : Int} (h6 : gO T m 2 ≤ 6) (hT0 : 0 ≤ T 0) (ht : 0 ≤ t) (ht2 : t < gO T m 2) : ∀ k : Nat, gD T N m t k ≠ -1 ↔ lev T N m k t
  | 0 => by
    show (if pand (pshr (gFound T N m 0) t) 1 = 1 then (0 : Int) else -1) ≠ -1 ↔ pand (pshr (gFound T N m 0) t) 1 = 1
    by_cases hc : pand (pshr (gFound T N m 0) t) 1 = 1
    · rw [if_pos hc]; exact ⟨fun _ => hc, fun _ => by omega⟩
    · rw [if_neg hc]; exact ⟨fun z => absurd rfl z, fun z => absurd z hc⟩
  | k + 1 => by
    have ih := gD_lev h6 hT0 ht ht2 (N := N) k
    show (if gD T N m t k ≠ -1 then gD T N m t k else if pand (pshr (gFound T N m (k + 1)) t) 1 = 1 then ((k + 1 : Nat) : Int) else -1) ≠ -1 ↔ pand (pshr (gFound T N m (k + 1)) t) 1 = 1
    by_cases hc : gD T N m t k ≠ -1
    · rw [if_pos hc]
      exact ⟨fun _ => lev_mono h6 hT0 ht ht2 (ih.mp hc), fun _ => hc⟩
    · rw [if_neg hc]
      by_cases hd : pand (pshr (gFound T N m (k + 1)) t) 1 = 1
      · rw [if_pos hd]; exact ⟨fun _ => hd, fun _ => by omega⟩
      · rw [if_neg hd]; exact ⟨fun z => absurd rfl z, fun z => absurd z hd⟩
theorem gDistF_eq {T N : Int → Int} {m t : Int} : ∀ (n far : Nat), (∀ j, far = j + 1 → gD T N m t j = -1) → gDistF T N m t (n + 1) far = gD T N m t (far + n)
  | 0, far, h => by
    show (if pand (pshr (gFound T N m far) t) 1 = 1 then (far : Int) else -1) = gD T N m t far
    cases far with
    | zero => rfl
    | succ j =>
      show _ = (if gD T N m t j ≠ -1 then gD T N m t j else if pand (pshr (gFound T N m (j + 1)) t) 1 = 1 then ((j + 1 : Nat) : Int) else -1)
      rw [if_neg (c := gD T N m t j ≠ -1) (fun z => z (h j rfl))]
  | n + 1, far, h => by
    show (if pand (pshr (gFound T N m far) t) 1 = 1 then (far : Int) else gDistF T N m t (n + 1) (far + 1)) = _
    have hf : gD T N m t far = if pand (pshr (gFound T N m far) t) 1 = 1 then (far : Int) else -1 := by
      cases far with
      | zero => rfl
      | succ j =>
        show (if gD T N m t j ≠ -1 then gD T N m t j else if pand (pshr (gFound T N m (j + 1)) t) 1 = 1 then ((j + 1 : Nat) : Int) else -1) = _
        rw [if_neg (c := gD T N m t j ≠ -1) (fun z => z (h j rfl))]
    by_cases hc : pand (pshr (gFound T N m far) t) 1 = 1
    · rw [if_pos hc] at hf ⊢
      rw [gD_stay (by rw [hf]; omega), hf]
    · rw [if_neg hc] at hf ⊢
      rw [gDistF_eq n (far + 1) (fun j hj => by rw [show j = far from by omega]; exact hf), show far + 1 + n = far + (n + 1) from by omega]
theorem gDist_eq {T N : Int → Int} {m t : Int} : gDist T N m t = gD T N m t 5 := by
  have := gDistF_eq (T := T) (N := N) (m := m) (t := t) 5 0 (fun j hj => by omega)
  unfold gDist
  rw [this]
/-- counting states -/
theorem sum_lt {P R : Int → Int} : ∀ n : Nat, (∀ t : Nat, t < n → P t ≤ R t) → upto (fun t a => a + P t) n 0 ≤ upto (fun t a => a + R t) n 0 ∧ ((∃ t : Nat, t < n ∧ P t + 1 ≤ R t) → upto (fun t a => a + P t) n 0 + 1 ≤ upto (fun t a => a + R t) n 0)
  | 0, _ => ⟨by show (0 : Int) ≤ 0; omega, fun ⟨t, h, _⟩ => absurd h (by omega)⟩
  | n + 1, h => by
    have ih := sum_lt (P := P) (R := R) n (fun t ht => h t (by omega))
    have hn := h n (by omega)
    show upto (fun t a => a + P t) n 0 + P n ≤ upto (fun t a => a + R t) n 0 + R n ∧ (_ → upto (fun t a => a + P t) n 0 + P n + 1 ≤ upto (fun t a => a + R t) n 0 + R n)
    refine ⟨by omega, ?_⟩
    rintro ⟨t, ht, h1⟩
    by_cases htn : t = n
    · subst htn; have := ih.1; omega
    · have := ih.2 ⟨t, by omega, h1⟩; omega
theorem sum_le {P : Int → Int} : ∀ n : Nat, (∀ t : Nat, t < n → P t ≤ 1) → upto (fun t a => a + P t) n 0 ≤ n ∧ (n ≤ upto (fun t a => a + P t) n 0 → ∀ t : Nat, t < n → 1 ≤ P t)
  | 0, _ => ⟨by show (0 : Int) ≤ ((0 : Nat) : Int); omega, fun _ t ht => absurd ht (by omega)⟩
  | n + 1, h => by
    have ih := sum_le (P := P) n (fun t ht => h t (by omega))
    have hn := h n (by omega)
    show upto (fun t a => a + P t) n 0 + P n ≤ ((n + 1 : Nat) : Int) ∧ (((n + 1 : Nat) : Int) ≤ upto (fun t a => a + P t) n 0 + P n → _)
    refine ⟨by omega, fun hs t ht => ?_⟩
    by_cases htn : t = n
    · subst htn; omega
    · exact ih.2 (by omega) t (by omega)
def lv1 (T N : Int → Int) (m : Int) (k : Nat) (t : Int) : Int := if pand (pshr (gFound T N m k) t) 1 = 1 then 1 else 0
def stab (T N : Int → Int) (m : Int) (j : Nat) : Prop := ∀ t, 0 ≤ t → t < gO T m 2 → lev T N m (j + 1) t → lev T N m j t
theorem lv1_le {T N : Int → Int} {m t : Int} {k : Nat} : 0 ≤ lv1 T N m k t ∧ lv1 T N m k t ≤ 1 := by unfold lv1; split <;> omega
theorem stab_or {T N : Int → Int} {m : Int} (h6 : gO T m 2 ≤ 6) (h1 : 1 ≤ gO T m 2) (hT0 : 0 ≤ T 0) (hgo : ∀ t l, 0 ≤ t → t < 6 → 0 ≤ l → l < T 0 → gGo T m t l < gO T m 2) : ∀ k : Nat, (∃ j, j ≤ k ∧ stab T N m j) ∨ (k + 1 : Int) ≤ upto (fun t a => a + lv1 T N m k t) (gO T m 2).toNat 0
  | 0 => by
    by_cases hc : ∃ t : Nat, t < (gO T m 2).toNat ∧ pand (pshr (gFound T N m 0) t) 1 = 1
    · right
      obtain ⟨t, ht, hb⟩ := hc
      have h := (sum_lt (P := fun _ => 0) (R := lv1 T N m 0) (gO T m 2).toNat (fun t _ => lv1_le.1)).2 ⟨t, ht, by unfold lv1; rw [if_pos hb]; omega⟩
      have e : upto (fun t a => a + (fun _ => (0 : Int)) t) (gO T m 2).toNat 0 = 0 := upto_ind (P := fun _ a => a = (0 : Int)) rfl _ (fun k x hk hx => by rw [hx]; rfl)
      rw [e] at h
      show ((0 : Nat) : Int) + 1 ≤ _
      omega
    · left
      refine ⟨0, by omega, fun t ht ht2 hl => ?_⟩
      rw [lev_S h6 hT0 ht ht2] at hl
      rcases hl with z | ⟨l, z1, z2, z3, z4, z5⟩
      · exact z
      · exfalso
        have hg := hgo t l ht (by omega) z1 z2
        exact hc ⟨(gGo T m t l).toNat, by omega, by rw [Int.toNat_of_nonneg z3]; exact z5⟩
  | k + 1 => by
    rcases stab_or h6 h1 hT0 hgo (N := N) k with ⟨j, hj, hs⟩ | hs
    · exact Or.inl ⟨j, by omega, hs⟩
    · by_cases hst : stab T N m k
      · exact Or.inl ⟨k, by omega, hst⟩
      · right
        have hex : ∃ t : Nat, t < (gO T m 2).toNat ∧ lv1 T N m k t + 1 ≤ lv1 T N m (k + 1) t := by
          refine Classical.byContradiction (fun hne => hst (fun t ht ht2 hl => ?_))
          refine Classical.byContradiction (fun hnl => hne ⟨t.toNat, by omega, ?_⟩)
          have hnl2 : ¬ pand (pshr (gFound T N m k) t) 1 = 1 := hnl
          have hl2 : pand (pshr (gFound T N m (k + 1)) t) 1 = 1 := hl
          rw [Int.toNat_of_nonneg ht]
          unfold lv1
          rw [if_neg hnl2, if_pos hl2]
          omega
        have h := (sum_lt (P := lv1 T N m k) (R := lv1 T N m (k + 1)) (gO T m 2).toNat (fun t ht => by
          unfold lv1
          by_cases hl : pand (pshr (gFound T N m k) t) 1 = 1
          · have hl2 : pand (pshr (gFound T N m (k + 1)) t) 1 = 1 := lev_mono h6 hT0 (by omega) (by omega) hl
            rw [if_pos hl, if_pos hl2]; omega
          · rw [if_neg hl]; split <;> omega)).2 hex
        show ((k + 1 : Nat) : Int) + 1 ≤ _
        omega
theorem stab_on {T N : Int → Int} {m : Int} {j : Nat} (h6 : gO T m 2 ≤ 6) (hT0 : 0 ≤ T 0) (hgo : ∀ t l, 0 ≤ t → t < 6 → 0 ≤ l → l < T 0 → gGo T m t l < gO T m 2) (h : stab T N m j) : ∀ i : Nat, stab T N m (j + i)
  | 0 => h
  | i + 1 => by
    have ih := stab_on h6 hT0 hgo h i
    intro t ht ht2 hl
    rw [lev_S h6 hT0 ht ht2] at hl
    rcases hl with z | ⟨l, z1, z2, z3, z4, z5⟩
    · exact z
    · have hg := hgo t l ht (by omega) z1 z2
      exact (lev_S h6 hT0 ht ht2).mpr (Or.inr ⟨l, z1, z2, z3, z4, ih _ z3 (by omega) z5⟩)
theorem gDist_last {T N : Int → Int} {m t : Int} (hT : TWf T) (hm : 0 ≤ m) (hm2 : m < T 1) (ht : 0 ≤ t) (ht2 : t < gO T m 2) : gDist T N m t = gD T N m t ((gO T m 2).toNat - 1) := by
  have hTm := hT.2.2.2.2.2 m hm hm2
  have h6 := hTm.1.2.2.2.1
  have h1 := hTm.1.2.2.1
  have hT0 := hT.1
  have hgo : ∀ t l, 0 ≤ t → t < 6 → 0 ≤ l → l < T 0 → gGo T m t l < gO T m 2 := fun t l h1 h2 h3 h4 => (gGo_lt hT hm hm2 h1 h2 h3 (by omega)).2
  have hst : stab T N m ((gO T m 2).toNat - 1) := by
    rcases stab_or h6 h1 (by omega) hgo (N := N) ((gO T m 2).toNat - 1) with ⟨j, hj, hs⟩ | hs
    · have := stab_on h6 (by omega) hgo hs ((gO T m 2).toNat - 1 - j)
      rwa [show j + ((gO T m 2).toNat - 1 - j) = (gO T m 2).toNat - 1 from by omega] at this
    · intro t' ht' ht2' _
      have h := (sum_le (P := lv1 T N m ((gO T m 2).toNat - 1)) (gO T m 2).toNat (fun t _ => lv1_le.2)).2 (by omega) t'.toNat (by omega)
      rw [Int.toNat_of_nonneg ht'] at h
      unfold lv1 at h
      by_cases hc : pand (pshr (gFound T N m ((gO T m 2).toNat - 1)) t') 1 = 1
      · exact hc
      · rw [if_neg hc] at h; omega
  rw [gDist_eq]
  have key : ∀ i : Nat, gD T N m t ((gO T m 2).toNat - 1 + i) = gD T N m t ((gO T m 2).toNat - 1) := by
    intro i
    induction i with
    | zero => rfl
    | succ i ih =>
      by_cases hc : gD T N m t ((gO T m 2).toNat - 1) ≠ -1
      · exact gD_stay hc (i + 1)
      · have hc1 : gD T N m t ((gO T m 2).toNat - 1 + i) = -1 := by rw [ih]; exact Classical.byContradiction hc
        show (if gD T N m t ((gO T m 2).toNat - 1 + i) ≠ -1 then _ else _) = _
        rw [if_neg (fun z => z hc1), if_neg]
        · rw [← ih, hc1]
        · intro hl
          have := stab_on h6 (by omega) hgo hst i t ht ht2 hl
          exact (gD_lev h6 (by omega) ht ht2 _).mpr this hc1
  have := key (5 - ((gO T m 2).toNat - 1))
  rwa [show (gO T m 2).toNat - 1 + (5 - ((gO T m 2).toNat - 1)) = 5 from by omega] at this
