/-! WORDS THAT JUST ONE ACCEPTS: the search meets codes in the order of their least lengths -/
def RcC (nx : Int → Int → Int) (L : Int) : Nat → Int → Prop
  | 0, c => c = 0
  | d + 1, c => ∃ c' l, RcC nx L d c' ∧ 0 ≤ l ∧ l < L ∧ nx c' l = c ∧ c ≠ -1
theorem depF_cg {o o' : Int → Int} {n : Int} (ho : Par o n) (h : ∀ i, 1 ≤ i → i < n → o' i = o i) : ∀ (f : Nat) (i : Int), i < n → depF o' f i = depF o f i
  | 0, _, _ => rfl
  | f + 1, i, h1 => by
    show (if i ≤ 0 then 0 else 1 + depF o' f (o' i / 4)) = (if i ≤ 0 then 0 else 1 + depF o f (o i / 4))
    by_cases h0 : i ≤ 0
    · rw [if_pos h0, if_pos h0]
    · have hp := ho i (by omega) h1
      rw [if_neg h0, if_neg h0, h i (by omega) h1, depF_cg ho h f (o i / 4) (by omega)]
theorem dep_cg {o o' : Int → Int} {n i : Int} (ho : Par o n) (h : ∀ i, 1 ≤ i → i < n → o' i = o i) (h2 : i < n) : dep o' i = dep o i := depF_cg ho h _ _ h2
def BMin (nx : Int → Int → Int) (L k m : Int) (S : BS) : Prop := (∀ i j, 0 ≤ i → i ≤ j → j < S.1 → dep S.2.2 i ≤ dep S.2.2 j) ∧ (k < S.1 → ∀ j, 0 ≤ j → j < S.1 → dep S.2.2 j ≤ dep S.2.2 k + 1) ∧ (∀ i l, 0 ≤ i → 0 ≤ l → l < L → i < S.1 → (i < k ∨ i = k ∧ l < m) → nx (S.2.1 i) l = -1 ∨ ∃ j, 0 ≤ j ∧ j < S.1 ∧ S.2.1 j = nx (S.2.1 i) l ∧ dep S.2.2 j ≤ dep S.2.2 i + 1) ∧ ∀ j, 0 ≤ j → j < S.1 → RcC nx L (dep S.2.2 j).toNat (S.2.1 j)
theorem min_let {vc : Int → Prop} {ix : Int → Int} {nx : Int → Int → Int} {L k m : Int} {S : BS} (hx : Ix vc ix) (hv : ∀ c l, vc c → 0 ≤ l → l < L → nx c l ≠ -1 → vc (nx c l)) (hB : BOk vc nx L S) (hM : BMin nx L k m S) (hk : 0 ≤ k) (hk2 : k < S.1) (hm : 0 ≤ m) (hm2 : m < L) (hL : L ≤ 4) : BMin nx L k (m + 1) (bLet nx k m S) := by
  have hB1 := hB.1
  have hM0 := hM
  obtain ⟨a1, a2, a3, a4⟩ := hM
  rw [bLet_eq]
  by_cases hz : nx (S.2.1 k) m = -1
  · rw [if_pos hz]
    refine ⟨a1, a2, fun i l h1 h2 h3 h4 h5 => ?_, a4⟩
    by_cases he : i = k ∧ l = m
    · rw [he.1, he.2]; exact Or.inl hz
    · exact a3 i l h1 h2 h3 h4 (by omega)
  · rw [if_neg hz]
    have hvc := hv _ _ (hB.2.1 k hk hk2) hm hm2 hz
    have hmo := bMeet_ok hx hB hvc hk hk2 hm hm2 hL rfl
    unfold bMeet at hmo ⊢
    rcases bPl_cases (c := nx (S.2.1 k) m) (show 0 ≤ S.1 by omega) with z | z
    · rw [if_pos z.1] at hmo ⊢
      have ho := bok_par hB
      have ho' := bok_par hmo.1
      have hd : ∀ i, i < S.1 → dep (bAdd (nx (S.2.1 k) m) (k * 4 + m) S).2.2 i = dep S.2.2 i := fun i hi => dep_cg ho (fun i h1 h2 => up1_k (by omega)) hi
      have hw : ∀ i, i < S.1 → (bAdd (nx (S.2.1 k) m) (k * 4 + m) S).2.1 i = S.2.1 i := fun i hi => up1_k (by omega)
      have hn1 : (bAdd (nx (S.2.1 k) m) (k * 4 + m) S).1 = S.1 + 1 := rfl
      have hon : (bAdd (nx (S.2.1 k) m) (k * 4 + m) S).2.2 S.1 = k * 4 + m := up1_s
      have hwn : (bAdd (nx (S.2.1 k) m) (k * 4 + m) S).2.1 S.1 = nx (S.2.1 k) m := up1_s
      have hdn := dep_s ho' (show 1 ≤ S.1 by omega) (show S.1 < (bAdd (nx (S.2.1 k) m) (k * 4 + m) S).1 by rw [hn1]; omega)
      rw [hon, show (k * 4 + m) / 4 = k from by omega, hd k hk2] at hdn
      generalize bAdd (nx (S.2.1 k) m) (k * 4 + m) S = S' at *
      refine ⟨fun i j h1 h2 h3 => ?_, fun _ j h1 h2 => ?_, fun i l h1 h2 h3 h4 h5 => ?_, fun j h1 h2 => ?_⟩
      · by_cases hj : j = S.1
        · by_cases hi : i = S.1
          · rw [hi, hj]; exact Int.le_refl _
          · rw [hj, hdn, hd i (by omega)]
            have := a2 hk2 i h1 (by omega)
            omega
        · rw [hd i (by omega), hd j (by omega)]
          exact a1 i j h1 h2 (by omega)
      · rw [hd k hk2]
        by_cases hj : j = S.1
        · rw [hj, hdn]; omega
        · rw [hd j (by omega)]
          exact a2 hk2 j h1 (by omega)
      · rw [hw i (by omega), hd i (by omega)]
        by_cases he : i = k ∧ l = m
        · rw [he.1, he.2]
          exact Or.inr ⟨S.1, by omega, by omega, hwn, by rw [hdn]; omega⟩
        · rcases a3 i l h1 h2 h3 (by omega) (by omega) with y | ⟨j, y1, y2, y3, y4⟩
          · exact Or.inl y
          · exact Or.inr ⟨j, y1, by omega, by rw [hw j y2]; exact y3, by rw [hd j y2]; exact y4⟩
      · by_cases hj : j = S.1
        · have hr := dep_rng ho k.toNat k hk hk2 (by omega)
          rw [hj, hdn, hwn, show (1 + dep S.2.2 k).toNat = (dep S.2.2 k).toNat + 1 from by omega]
          exact ⟨S.2.1 k, m, a4 k hk hk2, hm, hm2, rfl, hz⟩
        · rw [hd j (by omega), hw j (by omega)]
          exact a4 j h1 (by omega)
    · rw [if_neg (by omega)]
      refine ⟨a1, a2, fun i l h1 h2 h3 h4 h5 => ?_, a4⟩
      by_cases he : i = k ∧ l = m
      · rw [he.1, he.2]
        exact Or.inr ⟨bPl S (nx (S.2.1 k) m) - 1, by omega, by omega, z.2.2, a2 hk2 _ (by omega) (by omega)⟩
      · exact a3 i l h1 h2 h3 h4 (by omega)
theorem min_plc {vc : Int → Prop} {ix : Int → Int} {nx : Int → Int → Int} {L k : Int} {S : BS} (hx : Ix vc ix) (hv : ∀ c l, vc c → 0 ≤ l → l < L → nx c l ≠ -1 → vc (nx c l)) (hB : BOk vc nx L S) (hM : BMin nx L k 0 S) (hk : 0 ≤ k) (hk2 : k < S.1) (hL : L ≤ 4) : ∀ n : Nat, (n : Int) ≤ L → BMin nx L k n (upto (bLet nx k) n S)
  | 0, _ => hM
  | n + 1, hn => by
    have ih := min_plc hx hv hB hM hk hk2 hL n (by omega)
    have hP := bPlc_ok hx hv hB hk hk2 hL n (by omega)
    rw [show ((n + 1 : Nat) : Int) = (n : Int) + 1 from by omega]
    exact min_let hx hv hP.1 ih hk (by have := hP.2.1; omega) (by omega) (by omega) hL
theorem min_next {nx : Int → Int → Int} {L k : Int} {S : BS} (hM : BMin nx L k L S) (hk : 0 ≤ k) (hk2 : k < S.1) : BMin nx L (k + 1) 0 S := by
  obtain ⟨a1, a2, a3, a4⟩ := hM
  refine ⟨a1, fun h j h1 h2 => ?_, fun i l h1 h2 h3 h4 h5 => a3 i l h1 h2 h3 h4 (by omega), a4⟩
  have b1 := a2 hk2 j h1 h2
  have b2 := a1 k (k + 1) hk (by omega) h
  omega
def VSp (nx : Int → Int → Int) (L : Int) (fd : Int → Int) (v : Int) : Prop := (v = -1 ∧ ∀ d c, RcC nx L d c → fd c ≠ 1) ∨ (0 ≤ v ∧ (∃ c, RcC nx L v.toNat c ∧ fd c = 1) ∧ ∀ (d : Nat) c, (d : Int) < v → RcC nx L d c → fd c ≠ 1)
theorem min_run {vc : Int → Prop} {ix : Int → Int} {nx : Int → Int → Int} {fd : Int → Int} {L : Int} (hx : Ix vc ix) (hv : ∀ c l, vc c → 0 ≤ l → l < L → nx c l ≠ -1 → vc (nx c l)) (hL : 0 ≤ L ∧ L ≤ 4) : ∀ (f : Nat) (k : Int) (S : BS), BOk vc nx L S → BMin nx L k 0 S → 0 ≤ k → 1296 ≤ k + f → (∀ i, 0 ≤ i → i < k → i < S.1 → fd (S.2.1 i) ≠ 1) → VSp nx L fd (if (bRun nx L.toNat fd 1 f k S).1 = -1 then -1 else dep (bRun nx L.toNat fd 1 f k S).2.2.2 (bRun nx L.toNat fd 1 f k S).1) := by
  have exh : ∀ (k : Int) (S : BS), BOk vc nx L S → BMin nx L k 0 S → S.1 ≤ k → (∀ i, 0 ≤ i → i < k → i < S.1 → fd (S.2.1 i) ≠ 1) → VSp nx L fd (-1) := by
    intro k S hB hM hk hF
    have hB1 := hB.1
    have key : ∀ (d : Nat) (c : Int), RcC nx L d c → ∃ j, 0 ≤ j ∧ j < S.1 ∧ S.2.1 j = c := by
      intro d
      induction d with
      | zero => intro c hc; exact ⟨0, by omega, by omega, by rw [hB.2.2.2.1]; exact hc.symm⟩
      | succ d ih =>
        rintro c ⟨c', l, h1, h2, h3, h4, h5⟩
        obtain ⟨j, j1, j2, j3⟩ := ih c' h1
        rcases hM.2.2.1 j l j1 h2 h3 j2 (by omega) with y | ⟨q, y1, y2, y3, _⟩
        · rw [j3, h4] at y; exact absurd y h5
        · exact ⟨q, y1, y2, by rw [y3, j3, h4]⟩
    refine Or.inl ⟨rfl, fun d c hc => ?_⟩
    obtain ⟨j, j1, j2, j3⟩ := key d c hc
    rw [← j3]
    exact hF j j1 (by omega) j2
  intro f
  induction f with
  | zero =>
    intro k S hB hM hk hf hF
    have hB1 := hB.1
    exact exh k S hB hM (by omega) hF
  | succ f ih =>
    intro k S hB hM hk hf hF
    have hB1 := hB.1
    rw [bRun_s f k S]
    by_cases hkn : k < S.1
    · rw [if_pos hkn]
      by_cases hfd : fd (S.2.1 k) = 1
      · rw [if_pos (show (1 : Int) ≠ 0 ∧ fd (S.2.1 k) = 1 from ⟨by decide, hfd⟩)]
        dsimp only
        rw [if_neg (by omega)]
        have hr := dep_rng (bok_par hB) k.toNat k hk hkn (by omega)
        have key : ∀ (d : Nat) (c : Int), RcC nx L d c → (d : Int) < dep S.2.2 k → ∃ j, 0 ≤ j ∧ j < k ∧ S.2.1 j = c ∧ dep S.2.2 j ≤ d := by
          intro d
          induction d with
          | zero =>
            intro c hc hd
            refine ⟨0, by omega, ?_, by rw [hB.2.2.2.1]; exact hc.symm, by rw [dep_0]; omega⟩
            by_cases h0 : k = 0
            · rw [h0, dep_0] at hd; omega
            · omega
          | succ d ihd =>
            rintro c ⟨c', l, h1, h2, h3, h4, h5⟩ hd
            obtain ⟨j, j1, j2, j3, j4⟩ := ihd c' h1 (by omega)
            rcases hM.2.2.1 j l j1 h2 h3 (by omega) (Or.inl j2) with y | ⟨q, y1, y2, y3, y4⟩
            · rw [j3, h4] at y; exact absurd y h5
            · refine ⟨q, y1, ?_, by rw [y3, j3, h4], by omega⟩
              by_cases hq : q < k
              · exact hq
              · have := hM.1 k q hk (by omega) y2
                omega
        refine Or.inr ⟨hr.1, ⟨S.2.1 k, hM.2.2.2 k hk hkn, hfd⟩, fun d c hd hc => ?_⟩
        obtain ⟨j, j1, j2, j3, _⟩ := key d c hc hd
        rw [← j3]
        exact hF j j1 j2 (by omega)
      · rw [if_neg (show ¬ ((1 : Int) ≠ 0 ∧ fd (S.2.1 k) = 1) from fun z => hfd z.2)]
        have hP := bPlc_ok hx hv hB hk hkn hL.2 L.toNat (by omega)
        have hQ := min_plc hx hv hB hM hk hkn hL.2 L.toNat (by omega)
        rw [Int.toNat_of_nonneg hL.1] at hQ
        have hle := hP.2.1
        refine ih (k + 1) (bPlc nx L.toNat k S) hP.1 (min_next hQ hk (show k < (upto (bLet nx k) L.toNat S).1 by omega)) (by omega) (by omega) (fun i h1 h2 h3 => ?_)
        have hw : (bPlc nx L.toNat k S).2.1 i = S.2.1 i := (hP.2.2 i h1 (by omega)).1
        rw [hw]
        by_cases hi : i = k
        · rw [hi]; exact hfd
        · exact hF i h1 (by omega) (by omega)
    · rw [if_neg hkn]
      exact exh k S hB hM (by omega) hF
theorem min_0 {nx : Int → Int → Int} {L : Int} : BMin nx L 0 0 bS0 := by
  rw [bs0_eq]
  refine ⟨fun i j h1 h2 h3 => ?_, fun _ j h1 h2 => ?_, fun i l h1 h2 h3 h4 h5 => absurd h5 (by omega), fun j h1 h2 => ?_⟩
  · dsimp only at h3
    rw [show i = 0 from by omega, show j = 0 from by omega]; exact Int.le_refl _
  · dsimp only at h2
    rw [show j = 0 from by omega, dep_0]; decide
  · dsimp only at h2 ⊢
    rw [show j = 0 from by omega, dep_0, up1_s]
    rfl

/-! two machines side by side -/
def two (m o : Int) : Int := por (pshl 1 m) (pshl 1 o)
theorem two_16 : ∀ m o : Fin 4, 0 ≤ two ((m.val : Nat) : Int) ((o.val : Nat) : Int) ∧ two ((m.val : Nat) : Int) ((o.val : Nat) : Int) < 16 ∧ ∀ j : Fin 4, (pand (pshr (two ((m.val : Nat) : Int) ((o.val : Nat) : Int)) ((j.val : Nat) : Int)) 1 = 1 ↔ j = m ∨ j = o) := by decide +kernel
theorem two_bit {m o : Int} (hm : 0 ≤ m ∧ m < 4) (ho : 0 ≤ o ∧ o < 4) : (0 ≤ two m o ∧ two m o < 16) ∧ ∀ j, 0 ≤ j → j < 4 → (pand (pshr (two m o) j) 1 = 1 ↔ j = m ∨ j = o) := by
  have k := two_16 ⟨m.toNat, by omega⟩ ⟨o.toNat, by omega⟩
  simp only [Int.toNat_of_nonneg hm.1, Int.toNat_of_nonneg ho.1] at k
  refine ⟨⟨k.1, k.2.1⟩, fun j hj hj2 => ?_⟩
  have k2 := k.2.2 ⟨j.toNat, by omega⟩
  simp only [Int.toNat_of_nonneg hj, Fin.mk.injEq] at k2
  rw [k2, show (j.toNat = m.toNat ↔ j = m) from by omega, show (j.toNat = o.toNat ↔ j = o) from by omega]
theorem d7_inj {c c' : Int} (h0 : 0 ≤ c ∧ c < 2401) (h0' : 0 ≤ c' ∧ c' < 2401) (h : ∀ j, 0 ≤ j → j < 4 → d7 c j = d7 c' j) : c = c' := by
  have e0 := h 0 (by omega) (by omega)
  have e1 := h 1 (by omega) (by omega)
  have e2 := h 2 (by omega) (by omega)
  have e3 := h 3 (by omega) (by omega)
  simp only [pw7_0, pw7_1, pw7_2, pw7_3, pw7_4, pw6_0, pw6_1, pw6_2, pw6_3, pw6_4, r7_0, r7_1, r7_2, r7_3, r7_4, d7, Int.reduceAdd, Int.reduceSub, Int.reduceMul, pw6_0, pw6_1, pw6_2, pw6_3, pw6_4, r6_0, r6_1, r6_2, r6_3, r6_4] at e0 e1 e2 e3
  omega
theorem ix_two {T : Int → Int} {m o : Int} (hT : TWf T) (hm : 0 ≤ m ∧ m < T 1) (ho : 0 ≤ o ∧ o < T 1) : Ix (VC T (two m o) 1) (fun c => 7 * d7 c m + d7 c o) := by
  have hT1 := hT.2.1
  refine ⟨fun c hc => ⟨hc.1, ?_⟩, fun c c' hc hc' e => d7_inj hc.1 hc'.1 (fun j hj hj2 => ?_)⟩
  · have a := d7_rng (c := c) (m := m)
    have b := d7_rng (c := c) (m := o)
    (try dsimp only)
    omega
  · have a := d7_rng (c := c) (m := m)
    have b := d7_rng (c := c) (m := o)
    have a' := d7_rng (c := c') (m := m)
    have b' := d7_rng (c := c') (m := o)
    dsimp only at e
    by_cases h1 : j = m
    · rw [h1]; omega
    · by_cases h2 : j = o
      · rw [h2]; omega
      · have hb := (two_bit (m := m) (o := o) (by omega) (by omega)).2 j hj hj2
        have g := hc.2 j hj hj2
        have g' := hc'.2 j hj hj2
        have hn : ¬ (j < T 1 ∧ pand (pshr (two m o) j) 1 = 1) := fun z => by
          rcases hb.mp z.2 with y | y
          · exact h1 y
          · exact h2 y
        rw [if_neg hn] at g g'
        rw [g, g']
/-- the pair of states, each + 1, 0 at its end -/
def gd (T : Int → Int) (m t l : Int) : Int := if t = 0 then 0 else gGo T m (t - 1) l + 1
def pn (T : Int → Int) (m o k l : Int) : Int := 7 * gd T m (k / 7) l + gd T o (k % 7) l
def Rc (T : Int → Int) (m o : Int) : Nat → Int → Prop
  | 0, k => k = 8
  | d + 1, k => ∃ k' l, Rc T m o d k' ∧ 0 ≤ l ∧ l < T 0 ∧ k = pn T m o k' l
def ov (T : Int → Int) (m t : Int) : Prop := 0 < t ∧ gS T m (t - 1) 0 = 1
def df (T : Int → Int) (m o k : Int) : Prop := ¬ (ov T m (k / 7) ↔ ov T o (k % 7))
def RSp (T : Int → Int) (m o v : Int) : Prop := (v = -1 ∧ ∀ d k, Rc T m o d k → ¬ df T m o k) ∨ (0 ≤ v ∧ (∃ k, Rc T m o v.toNat k ∧ df T m o k) ∧ ∀ (d : Nat) k, (d : Int) < v → Rc T m o d k → ¬ df T m o k)
theorem rsp_eq {T : Int → Int} {m o v v' : Int} (h : RSp T m o v) (h' : RSp T m o v') : v = v' := by
  rcases h with ⟨a1, a2⟩ | ⟨a1, ⟨k, a2, a3⟩, a4⟩
  · rcases h' with ⟨b1, b2⟩ | ⟨b1, ⟨k', b2, b3⟩, b4⟩
    · omega
    · exact absurd b3 (a2 _ _ b2)
  · rcases h' with ⟨b1, b2⟩ | ⟨b1, ⟨k', b2, b3⟩, b4⟩
    · exact absurd a3 (b2 _ _ a2)
    · by_cases hlt : v < v'
      · exact absurd a3 (b4 v.toNat k (by omega) a2)
      · by_cases hgt : v' < v
        · exact absurd b3 (a4 v'.toNat k' (by omega) b2)
        · omega
theorem gd_rng {T : Int → Int} {m t l : Int} (hT : TWf T) (hm : 0 ≤ m) (hm2 : m < T 1) (ht : 0 ≤ t) (ht2 : t ≤ 6) (hl : 0 ≤ l) (hl2 : l < 4) : 0 ≤ gd T m t l ∧ gd T m t l ≤ 6 := by
  have h6 := (hT.2.2.2.2.2 m hm hm2).1
  unfold gd
  by_cases h0 : t = 0
  · rw [if_pos h0]; omega
  · have hg := gGo_lt hT hm hm2 (show 0 ≤ t - 1 by omega) (show t - 1 < 6 by omega) hl hl2
    rw [if_neg h0]; omega
theorem pn_rng {T : Int → Int} {m o k l : Int} (hT : TWf T) (hm : 0 ≤ m ∧ m < T 1) (ho : 0 ≤ o ∧ o < T 1) (hk : 0 ≤ k) (hk2 : k < 49) (hl : 0 ≤ l) (hl2 : l < 4) : 0 ≤ pn T m o k l ∧ pn T m o k l < 49 := by
  have a := gd_rng (t := k / 7) hT hm.1 hm.2 (by omega) (by omega) hl hl2
  have b := gd_rng (t := k % 7) hT ho.1 ho.2 (by omega) (by omega) hl hl2
  unfold pn
  omega
theorem rc_rng {T : Int → Int} {m o : Int} (hT : TWf T) (hm : 0 ≤ m ∧ m < T 1) (ho : 0 ≤ o ∧ o < T 1) : ∀ (d : Nat) (k : Int), Rc T m o d k → 0 ≤ k ∧ k < 49
  | 0, k, h => by have : k = 8 := h; omega
  | d + 1, k, ⟨k', l, h1, h2, h3, h4⟩ => by
    have hT0 := hT.1
    have ih := rc_rng hT hm ho d k' h1
    rw [h4]
    exact pn_rng hT hm ho ih.1 ih.2 h2 (by omega)
theorem rsp_same {T : Int → Int} {m : Int} (hT : TWf T) (hm : 0 ≤ m ∧ m < T 1) : RSp T m m (-1) := by
  have hT0 := hT.1
  have key : ∀ (d : Nat) (k : Int), Rc T m m d k → k / 7 = k % 7 := by
    intro d
    induction d with
    | zero => intro k h; have : k = 8 := h; omega
    | succ d ih =>
      rintro k ⟨k', l, h1, h2, h3, h4⟩
      have e := ih k' h1
      have hr := rc_rng hT hm hm d k' h1
      have hg := gd_rng (t := k' / 7) hT hm.1 hm.2 (by omega) (by omega) h2 (show l < 4 by omega)
      rw [h4]
      unfold pn
      rw [← e]
      omega
  exact Or.inl ⟨rfl, fun d k h z => z (by rw [key d k h])⟩
def pc (m o c : Int) : Int := 7 * ((d7 c m + 1) % 7) + (d7 c o + 1) % 7
theorem st_ap1 {T : Int → Int} {set c l : Int} (hT : TWf T) (hl : 0 ≤ l) (hl2 : l < 4) : ∀ n : Nat, (n : Int) ≤ T 1 → upto (stF T set 1 c l) n 0 ≠ -1
  | 0, _ => by show (0 : Int) ≠ -1; decide
  | n + 1, hn => by
    have hT1 := hT.2.1
    have ih := st_ap1 (set := set) (c := c) hT hl hl2 n (by omega)
    have hA := (stA (set := set) (ap := 1) (c := c) hT hl hl2 n (by omega) ih).1
    have hd := dg_rng (c := c) (l := l) (m := n) hT (by omega) (by omega) hl hl2
    have hp := pw7_rng (m := n) (by omega) (by omega)
    have hmul := Int.mul_nonneg hd.1 (show 0 ≤ pw7 n by omega)
    show stF T set 1 c l n (upto (stF T set 1 c l) n 0) ≠ -1
    generalize upto (stF T set 1 c l) n 0 = a at *
    unfold stF
    rw [if_neg ih]
    by_cases hb : pand (pshr set (n : Int)) 1 = 1
    · rw [if_pos hb, if_neg (fun z => absurd z.2 (by decide))]; omega
    · rw [if_neg hb]; exact ih
theorem pc_step {T : Int → Int} {m o c l : Int} (hT : TWf T) (hm : 0 ≤ m ∧ m < T 1) (ho : 0 ≤ o ∧ o < T 1) (hl : 0 ≤ l) (hl2 : l < 4) : gSt T (two m o) 1 c l ≠ -1 ∧ pc m o (gSt T (two m o) 1 c l) = pn T m o (pc m o c) l := by
  have hT1 := hT.2.1
  have hne : gSt T (two m o) 1 c l ≠ -1 := st_ap1 hT hl hl2 (T 1).toNat (by omega)
  have hA := (stA (set := two m o) (ap := 1) (c := c) hT hl hl2 (T 1).toNat (by omega) hne).2
  have hb := (two_bit (m := m) (o := o) (by omega) (by omega)).2
  have one : ∀ j, 0 ≤ j → j < T 1 → (j = m ∨ j = o) → (d7 (gSt T (two m o) 1 c l) j + 1) % 7 = gd T j ((d7 c j + 1) % 7) l := by
    intro j hj hj2 hjm
    have e : d7 (gSt T (two m o) 1 c l) j = dg T c l j := by
      have := (hA j hj (by omega)).1
      rw [if_pos ⟨by omega, (hb j hj (by omega)).mpr hjm⟩] at this
      exact this
    have hd := d7_rng (c := c) (m := j)
    have h6 := (hT.2.2.2.2.2 j hj hj2).1
    rw [e]
    unfold dg gd
    by_cases h : d7 c j = 6
    · rw [if_pos h, h, if_pos (by omega)]
      decide
    · have hg := gGo_lt hT hj hj2 hd.1 (show d7 c j < 6 by omega) hl hl2
      rw [if_neg h, if_neg (show ¬ ((d7 c j + 1) % 7 = 0) by omega), show (d7 c j + 1) % 7 - 1 = d7 c j from by omega]
      by_cases hz : gGo T j (d7 c j) l = -1
      · rw [if_pos hz, hz]; decide
      · rw [if_neg hz]; omega
  refine ⟨hne, ?_⟩
  have k1 := one m hm.1 hm.2 (Or.inl rfl)
  have k2 := one o ho.1 ho.2 (Or.inr rfl)
  have e1 : pc m o c / 7 = (d7 c m + 1) % 7 := by unfold pc; omega
  have e2 : pc m o c % 7 = (d7 c o + 1) % 7 := by unfold pc; omega
  unfold pn
  rw [e1, e2, ← k1, ← k2]
  rfl
theorem acc_two {T : Int → Int} {m o c : Int} (hm : 0 ≤ m ∧ m < 4) (ho : 0 ≤ o ∧ o < 4) (hne : m ≠ o) : ∀ n : Nat, n ≤ 4 → upto (acF T (two m o) c) n 0 = (if m < n ∧ d7 c m ≠ 6 ∧ gS T m (d7 c m) 0 = 1 then 1 else 0) + (if o < n ∧ d7 c o ≠ 6 ∧ gS T o (d7 c o) 0 = 1 then 1 else 0)
  | 0, _ => by rw [if_neg (by omega), if_neg (by omega)]; rfl
  | n + 1, hn => by
    have ih := acc_two (T := T) (c := c) hm ho hne n (by omega)
    have hb := (two_bit hm ho).2 n (by omega) (by omega)
    show acF T (two m o) c n (upto (acF T (two m o) c) n 0) = _
    rw [ih]
    unfold acF
    have hbig : ∀ j : Int, j ≠ n → (j < ((n + 1 : Nat) : Int) ↔ j < n) := fun j hj => by omega
    by_cases h1 : (n : Int) = m
    · have h2 : ¬ ((n : Int) = o) := fun z => hne (h1.symm.trans z)
      have hx : ∀ P : Prop, (o < ((n + 1 : Nat) : Int) ∧ P ↔ o < n ∧ P) := fun P => by rw [hbig o (fun z => h2 z.symm)]
      simp only [hx]
      by_cases hP : d7 c m ≠ 6 ∧ gS T m (d7 c m) 0 = 1
      · rw [if_pos ⟨hb.mpr (Or.inl h1), by rw [h1]; exact hP⟩, if_neg (show ¬ (m < (n : Int) ∧ _) from fun z => by omega), if_pos (show m < ((n + 1 : Nat) : Int) ∧ _ from ⟨by omega, hP⟩)]
        omega
      · rw [if_neg (fun z => hP (by rw [h1] at z; exact z.2)), if_neg (show ¬ (m < (n : Int) ∧ _) from fun z => by omega), if_neg (show ¬ (m < ((n + 1 : Nat) : Int) ∧ _) from fun z => hP z.2)]
    · have hx : ∀ P : Prop, (m < ((n + 1 : Nat) : Int) ∧ P ↔ m < n ∧ P) := fun P => by rw [hbig m (fun z => h1 z.symm)]
      simp only [hx]
      by_cases h2 : (n : Int) = o
      · by_cases hP : d7 c o ≠ 6 ∧ gS T o (d7 c o) 0 = 1
        · rw [if_pos ⟨hb.mpr (Or.inr h2), by rw [h2]; exact hP⟩, if_neg (show ¬ (o < (n : Int) ∧ _) from fun z => by omega), if_pos (show o < ((n + 1 : Nat) : Int) ∧ _ from ⟨by omega, hP⟩)]
          omega
        · rw [if_neg (fun z => hP (by rw [h2] at z; exact z.2)), if_neg (show ¬ (o < (n : Int) ∧ _) from fun z => by omega), if_neg (show ¬ (o < ((n + 1 : Nat) : Int) ∧ _) from fun z => hP z.2)]
      · have hx2 : ∀ P : Prop, (o < ((n + 1 : Nat) : Int) ∧ P ↔ o < n ∧ P) := fun P => by rw [hbig o (fun z => h2 z.symm)]
        simp only [hx2]
        rw [if_neg (fun z => by rcases hb.mp z.1 with y | y <;> omega)]
theorem fd_df {T : Int → Int} {m o c : Int} (hT : TWf T) (hm : 0 ≤ m ∧ m < T 1) (ho : 0 ≤ o ∧ o < T 1) (hne : m ≠ o) : gFd T (two m o) 1 c = 1 ↔ df T m o (pc m o c) := by
  have hT1 := hT.2.1
  have ha : gAcc T (two m o) c = _ := acc_two (T := T) (c := c) (m := m) (o := o) (by omega) (by omega) hne (T 1).toNat (by omega)
  have one : ∀ j, ov T j ((d7 c j + 1) % 7) ↔ (d7 c j ≠ 6 ∧ gS T j (d7 c j) 0 = 1) := by
    intro j
    have hd := d7_rng (c := c) (m := j)
    unfold ov
    by_cases h : d7 c j = 6
    · rw [h]
      exact ⟨fun z => absurd z.1 (by decide), fun z => absurd rfl z.1⟩
    · rw [show (d7 c j + 1) % 7 - 1 = d7 c j from by omega]
      exact ⟨fun z => ⟨h, z.2⟩, fun z => ⟨by omega, z.2⟩⟩
  have e1 : pc m o c / 7 = (d7 c m + 1) % 7 := by unfold pc; omega
  have e2 : pc m o c % 7 = (d7 c o + 1) % 7 := by unfold pc; omega
  unfold df gFd
  rw [e1, e2, one m, one o, if_pos (show (1 : Int) ≠ 0 by decide), ha]
  by_cases hP : d7 c m ≠ 6 ∧ gS T m (d7 c m) 0 = 1
  · rw [if_pos (show m < ((T 1).toNat : Int) ∧ _ from ⟨by omega, hP⟩)]
    by_cases hQ : d7 c o ≠ 6 ∧ gS T o (d7 c o) 0 = 1
    · rw [if_pos (show o < ((T 1).toNat : Int) ∧ _ from ⟨by omega, hQ⟩), if_neg (by decide)]
      exact ⟨fun z => absurd z (by decide), fun z => absurd ⟨fun _ => hQ, fun _ => hP⟩ z⟩
    · rw [if_neg (show ¬ (o < ((T 1).toNat : Int) ∧ _) from fun z => hQ z.2), if_pos (by decide)]
      exact ⟨fun _ z => hQ (z.mp hP), fun _ => rfl⟩
  · rw [if_neg (show ¬ (m < ((T 1).toNat : Int) ∧ _) from fun z => hP z.2)]
    by_cases hQ : d7 c o ≠ 6 ∧ gS T o (d7 c o) 0 = 1
    · rw [if_pos (show o < ((T 1).toNat : Int) ∧ _ from ⟨by omega, hQ⟩), if_pos (by decide)]
      exact ⟨fun _ z => hP (z.mpr hQ), fun _ => rfl⟩
    · rw [if_neg (show ¬ (o < ((T 1).toNat : Int) ∧ _) from fun z => hQ z.2), if_neg (by decide)]
      exact ⟨fun z => absurd z (by decide), fun z => absurd ⟨fun y => absurd y hP, fun y => absurd y hQ⟩ z⟩
theorem vsp_rsp {T : Int → Int} {m o v : Int} (hT : TWf T) (hm : 0 ≤ m ∧ m < T 1) (ho : 0 ≤ o ∧ o < T 1) (hne : m ≠ o) (h : VSp (gSt T (two m o) 1) (T 0) (gFd T (two m o) 1) v) : RSp T m o v := by
  have hT0 := hT.1
  have up : ∀ (d : Nat) (c : Int), RcC (gSt T (two m o) 1) (T 0) d c → Rc T m o d (pc m o c) := by
    intro d
    induction d with
    | zero =>
      intro c hc
      have : c = 0 := hc
      rw [this]
      have hT1 := hT.2.1
      show pc m o 0 = 8
      unfold pc
      rw [d7_0 hm.1 (by omega), d7_0 ho.1 (by omega)]
      decide
    | succ d ih =>
      rintro c ⟨c', l, h1, h2, h3, h4, h5⟩
      exact ⟨pc m o c', l, ih c' h1, h2, h3, by rw [← h4]; exact (pc_step hT hm ho h2 (by omega)).2⟩
  have dn : ∀ (d : Nat) (k : Int), Rc T m o d k → ∃ c, RcC (gSt T (two m o) 1) (T 0) d c ∧ pc m o c = k := by
    intro d
    induction d with
    | zero =>
      intro k hk
      refine ⟨0, rfl, ?_⟩
      have hT1 := hT.2.1
      have : k = 8 := hk
      rw [this]
      unfold pc
      rw [d7_0 hm.1 (by omega), d7_0 ho.1 (by omega)]
      decide
    | succ d ih =>
      rintro k ⟨k', l, h1, h2, h3, h4⟩
      obtain ⟨c', g1, g2⟩ := ih k' h1
      have hs := pc_step (c := c') hT hm ho h2 (show l < 4 by omega)
      exact ⟨gSt T (two m o) 1 c' l, ⟨c', l, g1, h2, h3, rfl, hs.1⟩, by rw [hs.2, g2, h4]⟩
  rcases h with ⟨a1, a2⟩ | ⟨a1, ⟨c, a2, a3⟩, a4⟩
  · refine Or.inl ⟨a1, fun d k hk z => ?_⟩
    obtain ⟨c, g1, g2⟩ := dn d k hk
    exact a2 d c g1 ((fd_df hT hm ho hne).mpr (by rw [g2]; exact z))
  · refine Or.inr ⟨a1, ⟨pc m o c, up _ c a2, (fd_df hT hm ho hne).mp a3⟩, fun d k hd hk z => ?_⟩
    obtain ⟨c', g1, g2⟩ := dn d k hk
    exact a4 d c' hd g1 ((fd_df hT hm ho hne).mpr (by rw [g2]; exact z))
theorem C_lengthApart {p m o : Int} {T : Int → Int} {nx : Nat} {h r : PF} {s : Int → Int} {Q : PO → PY → Nat → PC → Prop} (hW : WFr r) (hP : PlOk r p) (hp20 : 20 < p) (hT : TWf T) (hR : PlanRel h p T) (hF : SearchOk h) (hm : 0 ≤ m ∧ m < T 1) (ho : 0 ≤ o ∧ o < T 1) (hne : m ≠ o) (K : ∀ (h' : PF) (v : Int), (∀ a, a < 15 ∨ 18 < a → h' a = h a) → SearchOk h' → RSp T m o v → -1 ≤ v → v < 1296 → Q (Sum.inl (some (pI v))) LY nx (h', r, s)) : Wp 46 0 [some (pR 15), some (pR p), some (pI (two m o))] [] LY nx (h, r, s) Q := by
  have hT0 := hT.1
  have hP0 := hP.1.1
  have hPk := hP.1.2
  have hx := ix_two hT hm ho
  have hv : ∀ c l, VC T (two m o) 1 c → 0 ≤ l → l < T 0 → gSt T (two m o) 1 c l ≠ -1 → VC T (two m o) 1 (gSt T (two m o) 1 c l) := fun c l _ h1 h2 h3 => vc_st hT h1 (by omega) h3
  simp (disch := first | assumption | omega) only [st_X4_lengthApart, ↓if_pos, ↓if_neg, if_pos, if_neg, ↓reduceIte, true_and, and_true, false_and, and_false, true_or, or_true, false_or, or_false, w32_id, Kv, Kn, fup_s, fup_a, fup_k, fup_fup, Int.reduceAdd, Int.reduceSub, Int.reduceMul, Int.reduceNeg]
  refine C_begin hW hF (Or.inr rfl) (fun h1 f1 g6 g7 hC1 => ?_)
  simp (disch := first | assumption | omega) only [st_X4_lengthApart, ↓if_pos, ↓if_neg, if_pos, if_neg, ↓reduceIte, true_and, and_true, false_and, and_false, true_or, or_true, false_or, or_false, w32_id, Kv, Kn, fup_s, fup_a, fup_k, fup_fup, Int.reduceAdd, Int.reduceSub, Int.reduceMul, Int.reduceNeg]
  refine C_explore (ix := fun c => 7 * d7 c m + d7 c o) hW hP hp20 hT (pr_fr (fun a z1 z2 => f1 a (by omega)) hR) g6 g7 (Or.inr rfl) (Or.inr rfl) hx hC1 (bS0_ok (vc_0 hT)) (fun h2 f2 g62 g72 hC2 hB2 hL2 => ?_)
  have hrun := min_run (fd := gFd T (two m o) 1) hx hv (show 0 ≤ T 0 ∧ T 0 ≤ 4 by omega) 1296 0 bS0 (bS0_ok (vc_0 hT)) min_0 (by omega) (by omega) (fun i h1 h2 => absurd h2 (by omega))
  have hrr := bRun_rng (nx := gSt T (two m o) 1) (L := (T 0).toNat) (fd := gFd T (two m o) 1) (fs := 1) 1296 0 bS0 (by omega)
  generalize (bRun (gSt T (two m o) 1) (T 0).toNat (gFd T (two m o) 1) 1 1296 0 bS0) = Rs at *
  obtain ⟨k, S⟩ := Rs
  dsimp only at hC2 hB2 hrun hrr
  have hB1 := hB2.1
  have hKK := K h2 (if k = -1 then -1 else dep S.2.2 k) (fun a ha => by rw [f2 a ha, f1 a ha]) (crel_ok hx hB2 hC2) (vsp_rsp hT hm ho hne hrun) (by
    split
    · omega
    · have := dep_rng (bok_par hB2) k.toNat k (by omega) (by omega) (by omega)
      omega) (by
    split
    · omega
    · have := dep_rng (bok_par hB2) k.toNat k (by omega) (by omega) (by omega)
      omega)
  simp (disch := first | assumption | omega) only [st_X4_lengthApart, ↓if_pos, ↓if_neg, if_pos, if_neg, ↓reduceIte, true_and, and_true, false_and, and_false, true_or, or_true, false_or, or_false, w32_id, Kv, Kn, fup_s, fup_a, fup_k, fup_fup, Int.reduceAdd, Int.reduceSub, Int.reduceMul, Int.reduceNeg, C_lengthTo hW hC2 (bok_par hB2) (fun i z1 z2 => (bok_o hB2 hT0.2 z1 z2).2) hB1.2 (show -1 ≤ k by omega) (show k < S.1 by omega)]
  exact hKK
