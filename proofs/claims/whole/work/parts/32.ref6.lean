/-! WHAT THE REFERENCE'S CHANGES KEEP -/
/-- all coins -/
def gTot (N : Int → Int) (n : Nat) : Int := upto (fun m a => a + gOf N m 1) n (N 1)
theorem gTot_S {N : Int → Int} {n : Nat} : gTot N (n + 1) = gTot N n + gOf N n 1 := rfl
theorem gTot_k {N : Int → Int} {k v : Int} (h1 : k ≠ 1) : ∀ n : Nat, (∀ m : Nat, m < n → (64 + 11 * m + 1 : Int) ≠ k) → gTot (up1 N k v) n = gTot N n
  | 0, _ => up1_k (fun e => h1 e.symm)
  | n + 1, h => by
    rw [gTot_S, gTot_S, gTot_k h1 n (fun m hm => h m (by omega)), gOf_k (h n (by omega))]
theorem gTot_1 {N : Int → Int} {v : Int} : ∀ n : Nat, gTot (up1 N 1 v) n = gTot N n - N 1 + v
  | 0 => by show up1 N 1 v 1 = N 1 - N 1 + v; rw [up1_s]; omega
  | n + 1 => by rw [gTot_S, gTot_S, gTot_1 n, gOf_k (by omega)]; omega
theorem gTot_c {N : Int → Int} {m v : Int} (hm : 0 ≤ m) : ∀ n : Nat, gTot (up1 N (64 + 11 * m + 1) v) n = gTot N n + (if m < n then v - gOf N m 1 else 0)
  | 0 => by rw [if_neg (by omega)]; show up1 N (64 + 11 * m + 1) v 1 = N 1 + 0; rw [up1_k (by omega)]; omega
  | n + 1 => by
    rw [gTot_S, gTot_S, gTot_c hm n]
    by_cases h : m = n
    · subst h; rw [gOf_s, if_neg (by omega), if_pos (by omega)]; omega
    · rw [gOf_k (by omega)]
      by_cases h2 : m < n
      · rw [if_pos h2, if_pos (by omega)]; omega
      · rw [if_neg h2, if_neg (by omega)]; omega
theorem gTot_chest {N : Int → Int} {m c a : Int} {n : Nat} (hm : 0 ≤ m) (hm2 : m < n) (hn : n ≤ 4) (ha : 0 ≤ a) (ha2 : a < 6) : gTot (gChest N m c a) n = gTot N n := by
  unfold gChest
  rw [gTot_k (by omega) n (fun j hj => by omega), gTot_1, gTot_c hm, if_pos hm2, up1_k (by omega)]
  omega
theorem gTot_ge {N : Int → Int} : ∀ n : Nat, (∀ m : Nat, m < n → 0 ≤ gOf N m 1) → N 1 ≤ gTot N n ∧ ∀ m : Nat, m < n → 0 ≤ N 1 → gOf N m 1 ≤ gTot N n
  | 0, _ => ⟨by show N 1 ≤ N 1; omega, fun m hm => by omega⟩
  | n + 1, h => by
    have ih := gTot_ge n (fun m hm => h m (by omega))
    have hn := h n (by omega)
    rw [gTot_S]
    refine ⟨by omega, fun m hm h1 => ?_⟩
    by_cases hmn : m = n
    · subst hmn; omega
    · have := ih.2 m (by omega) h1; omega
/-- the machines and the chest, in their bounds -/
def MWf (T N : Int → Int) : Prop := (∀ m, 0 ≤ m → m < T 1 → (0 ≤ gOf N m 0 ∧ gOf N m 0 < gO T m 2) ∧ 0 ≤ gOf N m 1 ∧ (1 ≤ gOf N m 2 ∧ gOf N m 2 ≤ 9) ∧ ∀ t, 0 ≤ t → t < 6 → 0 ≤ gOf N m (5 + t) ∧ gOf N m (5 + t) ≤ 99) ∧ 0 ≤ N 1 ∧ gTot N (T 1).toNat ≤ 3996
theorem wn_wm {T N : Int → Int} (h : NWf T N) : MWf T N := ⟨h.2.2.2.2.1, h.2.2.2.2.2.1, h.2.2.2.2.2.2⟩
theorem wm_coins {T N : Int → Int} {m : Int} (h : MWf T N) (hm : 0 ≤ m) (hm2 : m < T 1) : gOf N m 1 ≤ 3996 ∧ N 1 ≤ 3996 := by
  have h1 := gTot_ge (N := N) (T 1).toNat (fun k hk => (h.1 k (by omega) (by omega)).2.1)
  have h2 := h1.2 m.toNat (by omega) h.2.1
  rw [Int.toNat_of_nonneg hm] at h2
  have h3 := h.2.2
  omega
theorem wm_ok {T N : Int → Int} {m : Int} (h : MWf T N) (hm : 0 ≤ m) (hm2 : m < T 1) : MOk T N m := by
  have h1 := h.1 m hm hm2
  have h2 := wm_coins h hm hm2
  have h3 := h.2.1
  exact ⟨h1.1, ⟨h1.2.1, h2.1⟩, h1.2.2.2, h3, by omega⟩
theorem wm_chest {T N : Int → Int} {m c a : Int} (hT : TWf T) (h : MWf T N) (hm : 0 ≤ m) (hm2 : m < T 1) (hc : 0 ≤ c) (hc2 : c ≤ gOf N m 1) (ha : 0 ≤ a) (ha2 : a < 6) : MWf T (gChest N m c a) := by
  have hT1 := hT.2.1
  have h2 := h.2.1
  refine ⟨fun k hk hk2 => ?_, ?_, ?_⟩
  · have h1 := h.1 k hk hk2
    have e : ∀ w, 0 ≤ w → w < 11 → gOf (gChest N m c a) k w = if k = m ∧ w = 1 then gOf N m 1 - c else gOf N k w := by
      intro w hw hw2
      unfold gChest
      rw [gOf_k (by omega), gOf_k (by omega)]
      by_cases hkm : k = m ∧ w = 1
      · rw [if_pos hkm, hkm.1, hkm.2, gOf_s]
      · rw [if_neg hkm, gOf_k (by omega)]
    refine ⟨?_, ?_, ?_, fun t ht ht2 => ?_⟩
    · rw [e 0 (by omega) (by omega), if_neg (by omega)]; exact h1.1
    · rw [e 1 (by omega) (by omega)]
      split <;> omega
    · rw [e 2 (by omega) (by omega), if_neg (by omega)]; exact h1.2.2.1
    · rw [e (5 + t) (by omega) (by omega), if_neg (by omega)]; exact h1.2.2.2 t ht ht2
  · unfold gChest
    rw [up1_k (by omega), up1_s]
    omega
  · rw [gTot_chest hm (by omega) (by omega) ha ha2]
    exact h.2.2
/-- one place of a machine new, that isn't its coins -/
theorem wm_up {T N : Int → Int} {m w v : Int} (hT : TWf T) (h : MWf T N) (hm : 0 ≤ m) (hw : 0 ≤ w) (hw2 : w < 11) (hw1 : w ≠ 1) (h0 : w = 0 → m < T 1 → 0 ≤ v ∧ v < gO T m 2) (h2 : w = 2 → 1 ≤ v ∧ v ≤ 9) (h5 : 5 ≤ w → 0 ≤ v ∧ v ≤ 99) : MWf T (up1 N (64 + 11 * m + w) v) := by
  have hT1 := hT.2.1
  refine ⟨fun k hk hk2 => ?_, ?_, ?_⟩
  · have h1 := h.1 k hk hk2
    have e : ∀ w', 0 ≤ w' → w' < 11 → gOf (up1 N (64 + 11 * m + w) v) k w' = if k = m ∧ w' = w then v else gOf N k w' := by
      intro w' hw' hw2'
      by_cases hkm : k = m ∧ w' = w
      · rw [if_pos hkm, hkm.1, hkm.2, gOf_s]
      · rw [if_neg hkm, gOf_k (by omega)]
    refine ⟨?_, ?_, ?_, fun t ht ht2 => ?_⟩
    · rw [e 0 (by omega) (by omega)]
      by_cases hc : k = m ∧ 0 = w
      · rw [if_pos hc]; have := h0 hc.2.symm (by omega); rw [hc.1]; exact this
      · rw [if_neg hc]; exact h1.1
    · rw [e 1 (by omega) (by omega), if_neg (by omega)]; exact h1.2.1
    · rw [e 2 (by omega) (by omega)]
      by_cases hc : k = m ∧ 2 = w
      · rw [if_pos hc]; exact h2 hc.2.symm
      · rw [if_neg hc]; exact h1.2.2.1
    · rw [e (5 + t) (by omega) (by omega)]
      by_cases hc : k = m ∧ 5 + t = w
      · rw [if_pos hc]; exact h5 (by omega)
      · rw [if_neg hc]; exact h1.2.2.2 t ht ht2
  · rw [up1_k (by omega)]; exact h.2.1
  · rw [gTot_k (by omega) _ (fun j hj => by omega)]; exact h.2.2
/-- a place new, that is no machine's and isn't the chest -/
theorem wm_out {T N : Int → Int} {k v : Int} (hT : TWf T) (h : MWf T N) (hk : k ≠ 1) (hk2 : k < 64 ∨ 108 ≤ k) : MWf T (up1 N k v) := by
  have hT1 := hT.2.1
  have e : ∀ m, 0 ≤ m → m < T 1 → ∀ w, 0 ≤ w → w < 11 → gOf (up1 N k v) m w = gOf N m w := fun m hm hm2 w hw hw2 => gOf_k (by omega)
  refine ⟨fun m hm hm2 => ?_, by rw [up1_k (fun z => hk z.symm)]; exact h.2.1, by rw [gTot_k hk _ (fun j hj => by omega)]; exact h.2.2⟩
  have h1 := h.1 m hm hm2
  rw [e m hm hm2 0 (by omega) (by omega), e m hm hm2 1 (by omega) (by omega), e m hm hm2 2 (by omega) (by omega)]
  refine ⟨h1.1, h1.2.1, h1.2.2.1, fun t ht ht2 => ?_⟩
  rw [e m hm hm2 (5 + t) (by omega) (by omega)]
  exact h1.2.2.2 t ht ht2
theorem gTo_rng {T N : Int → Int} {m l : Int} (hT : TWf T) (h : MWf T N) (hm : 0 ≤ m) (hm2 : m < T 1) (hl : 0 ≤ l) (hl2 : l < 4) : -1 ≤ gTo T N m l ∧ gTo T N m l < gO T m 2 ∧ gO T m 2 ≤ 6 := by
  have h1 := (h.1 m hm hm2).1
  have h2 := (hT.2.2.2.2.2 m hm hm2).1
  have := gGo_lt (t := gOf N m 0) hT hm hm2 h1.1 (by omega) hl hl2
  unfold gTo
  omega
theorem wm_enters {T N : Int → Int} {m l : Int} (hT : TWf T) (h : MWf T N) (hm : 0 ≤ m) (hm2 : m < T 1) (hl : 0 ≤ l) (hl2 : l < 4) (hc : 0 ≤ gTo T N m l ∧ ¬ (0 < gS T m (gTo T N m l) 1 ∧ gOf N m (5 + (gTo T N m l)) = 0)) : MWf T (gEnters T N m l) := by
  have hg := gTo_rng hT h hm hm2 hl hl2
  have h0 : MWf T (gEnter0 T N m l) := by
    unfold gEnter0
    exact wm_up hT (wm_up hT h hm (by omega) (by omega) (by omega) (fun _ _ => ⟨hc.1, hg.2.1⟩) (fun z => by omega) (fun z => by omega)) hm (by omega) (by omega) (by omega) (fun z => by omega) (fun z => by omega) (fun z => by omega)
  unfold gEnters
  by_cases hs : 0 < gS T m (gTo T N m l) 1
  · rw [if_pos hs]
    have h5 := (h.1 m hm hm2).2.2.2 (gTo T N m l) hc.1 (by omega)
    have h6 : gOf N m (5 + gTo T N m l) ≠ 0 := fun z => hc.2 ⟨hs, z⟩
    exact wm_up hT h0 hm (by omega) (by omega) (by omega) (fun z => by omega) (fun z => by omega) (fun z => by omega)
  · rw [if_neg hs]; exact h0
theorem wm_balk {T N : Int → Int} {m : Int} (hT : TWf T) (h : MWf T N) (hm : 0 ≤ m) (hm2 : m < T 1) : MWf T (gBalk N m) := by
  have h1 := (h.1 m hm hm2).2.1
  unfold gBalk
  refine wm_chest hT (wm_up hT h hm (by omega) (by omega) (by omega) (fun z => by omega) (fun z => by omega) (fun z => by omega)) hm hm2 (by split <;> omega) ?_ (by omega) (by omega)
  rw [gOf_k (by omega)]
  split <;> omega
theorem wm_hears {T N : Int → Int} {m l : Int} (hT : TWf T) (h : MWf T N) (hm : 0 ≤ m) (hm2 : m < T 1) (hl : 0 ≤ l) (hl2 : l < 4) : MWf T (gHears T N m l) := by
  unfold gHears
  by_cases hc : 0 ≤ gTo T N m l ∧ ¬ (0 < gS T m (gTo T N m l) 1 ∧ gOf N m (5 + (gTo T N m l)) = 0)
  · rw [if_pos hc]; exact wm_enters hT h hm hm2 hl hl2 hc
  · rw [if_neg hc]; exact wm_balk hT h hm hm2
theorem wm_sayF {T N : Int → Int} {m l b : Int} (hT : TWf T) (h : MWf T N) (hm : 0 ≤ m) (hm2 : m < T 1) (hl : 0 ≤ l) (hl2 : l < 4) (hc : pand (pshr b m) 1 = 1 → 0 ≤ gTo T N m l ∧ ¬ (0 < gS T m (gTo T N m l) 1 ∧ gOf N m (5 + (gTo T N m l)) = 0)) : MWf T (gSayF T l b m N) := by
  unfold gSayF
  by_cases h1 : pand (pshr b m) 1 = 1
  · rw [if_pos h1]; exact wm_enters hT h hm hm2 hl hl2 (hc h1)
  · rw [if_neg h1]
    split
    · exact wm_hears hT h hm hm2 hl hl2
    · exact h
/-- what a machine does leaves the others as they are -/
theorem gEnters_o {T N : Int → Int} {m l m' w : Int} (hne : m' ≠ m) (hw : 0 ≤ w) (hw2 : w < 11) (hg : 0 ≤ gTo T N m l) (hg2 : gTo T N m l < 6) : gOf (gEnters T N m l) m' w = gOf N m' w := by
  have h0 : gOf (gEnter0 T N m l) m' w = gOf N m' w := by unfold gEnter0; rw [gOf_k (by omega), gOf_k (by omega)]
  unfold gEnters
  split
  · rw [gOf_k (by omega), h0]
  · exact h0
theorem gBalk_o {N : Int → Int} {m m' w : Int} (hne : m' ≠ m) (hm : 0 ≤ m) (hm4 : m < 4) (hm' : 0 ≤ m') (hm4' : m' < 4) (hw : 0 ≤ w) (hw2 : w < 11) : gOf (gBalk N m) m' w = gOf N m' w := by
  unfold gBalk gChest
  rw [gOf_k (by omega), gOf_k (by omega), gOf_k (by omega), gOf_k (by omega)]
theorem gSayF_o {T N : Int → Int} {m l b m' w : Int} (hT : TWf T) (h : MWf T N) (hm : 0 ≤ m) (hm2 : m < T 1) (hl : 0 ≤ l) (hl2 : l < 4) (hc : pand (pshr b m) 1 = 1 → 0 ≤ gTo T N m l ∧ ¬ (0 < gS T m (gTo T N m l) 1 ∧ gOf N m (5 + (gTo T N m l)) = 0)) (hne : m' ≠ m) (hm' : 0 ≤ m') (hm4' : m' < 4) (hw : 0 ≤ w) (hw2 : w < 11) : gOf (gSayF T l b m N) m' w = gOf N m' w := by
  have hg := gTo_rng hT h hm hm2 hl hl2
  have hT1 := hT.2.1
  unfold gSayF gHears
  by_cases h1 : pand (pshr b m) 1 = 1
  · rw [if_pos h1, gEnters_o hne hw hw2 (hc h1).1 (by omega)]
  · rw [if_neg h1]
    split
    · split
      · rename_i hcg
        rw [gEnters_o hne hw hw2 hcg.1 (by omega)]
      · rw [gBalk_o hne hm (by omega) hm' hm4' hw hw2]
    · rfl
