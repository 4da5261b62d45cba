/-! TEXT: statements, as functions -/
def lt1 : List Int → Int
  | [] => -1
  | d :: [] => d - 1
  | _ :: _ :: _ => -1
theorem lt1_N32 {c : Int} (hc : c ≤ 4) : ∀ x : List Int, Dg x → 1 ≤ x.length → 0 ≤ N32 x - 1 ∧ (N32 x - 1 < c ↔ 0 ≤ lt1 x ∧ lt1 x < c) ∧ (N32 x - 1 < c → N32 x - 1 = lt1 x)
  | [], _, h => absurd h (by decide)
  | d :: [], hx, _ => by
    have h1 := hx.1
    have e : N32 (d :: []) = 0 * 32 + d := rfl
    have e2 : lt1 (d :: []) = d - 1 := rfl
    rw [e, e2]
    omega
  | d :: d' :: t, hx, _ => by
    have h1 := hx.1
    have h2 := hx.2.1
    have h3 := N32_nn t hx.2.2
    have e : N32 (d :: d' :: t) = (N32 t * 32 + d') * 32 + d := rfl
    have e2 : lt1 (d :: d' :: t) = -1 := rfl
    rw [e, e2]
    omega
abbrev PSt : Type := Int × (Int → Int) × (Int → List Int) × Int
abbrev PRs : Type := (Int × Int) ⊕ PSt
def uC (T : Int → Int) (m t w v : Int) : Int → Int := up1 T (4 + 40 * m + (4 + 6 * t + w)) v
def uM (T : Int → Int) (c g q ls : Int) : Int → Int := up1 (up1 (up1 (up1 (up1 T (4 + 40 * T 1 + 0) c) (4 + 40 * T 1 + 1) g) (4 + 40 * T 1 + 2) q) (4 + 40 * T 1 + 3) ls) 1 (T 1 + 1)
def upW (W : Int → List Int) (k : Int) (x : List Int) : Int → List Int := fun i => if i = k then x else W i
def pMach (b : Int → Int) (n j : Int) (T : Int → Int) (W : Int → List Int) (tr : Int) : PRs :=
  if 4 ≤ T 1 then Sum.inl (5, ss b n j)
  else if kk b n (j + 1) ≠ 1 then Sum.inl (1, ss b n (j + 1))
  else if gNm W (ww b n (j + 1)) (T 1) ≠ -1 then Sum.inl (2, ss b n (j + 1))
  else match pNum b n 0 999 (j + 1 + 1) with
    | Sum.inl e => Sum.inl e
    | Sum.inr c => match pNum b n 1 9 (j + 1 + 1 + 1) with
      | Sum.inl e => Sum.inl e
      | Sum.inr g => match pNum b n 1 6 (j + 1 + 1 + 1 + 1) with
        | Sum.inl e => Sum.inl e
        | Sum.inr q => Sum.inr (if kk b n (j + 1 + 1 + 1 + 1 + 1) = 1 ∧ ww b n (j + 1 + 1 + 1 + 1 + 1) = kw (-3) then (j + 1 + 1 + 1 + 1 + 1 + 1, uM T c g q 1, upW W (T 1) (ww b n (j + 1)), tr) else (j + 1 + 1 + 1 + 1 + 1, uM T c g q 0, upW W (T 1) (ww b n (j + 1)), tr))
def pTurn (b : Int → Int) (n j : Int) (T : Int → Int) (W : Int → List Int) (tr : Int) : PRs :=
  if tr ≠ 0 then Sum.inl (2, ss b n j)
  else match pNum b n 1 20 (j + 1) with
    | Sum.inl e => Sum.inl e
    | Sum.inr a => match pNum b n 0 99 (j + 1 + 1) with
      | Sum.inl e => Sum.inl e
      | Sum.inr c => Sum.inr (j + 1 + 1 + 1, up1 (up1 T 2 a) 3 c, W, 1)
/-- of which state of which machine -/
def pHead (b : Int → Int) (n j : Int) (T : Int → Int) (W : Int → List Int) : (Int × Int) ⊕ (Int × Int) :=
  if kk b n (j + 1) ≠ 1 then Sum.inl (1, ss b n (j + 1))
  else if gNm W (ww b n (j + 1)) (T 1) = -1 then Sum.inl (4, ss b n (j + 1))
  else match pNum b n 0 (gO T (gNm W (ww b n (j + 1)) (T 1)) 2 - 1) (j + 1 + 1) with
    | Sum.inl e => Sum.inl e
    | Sum.inr f => Sum.inr (gNm W (ww b n (j + 1)) (T 1), f)
def pGo (b : Int → Int) (n j : Int) (T : Int → Int) (W : Int → List Int) (tr m f : Int) : PRs :=
  if kk b n (j + 1 + 1 + 1) ≠ 1 then Sum.inl (1, ss b n (j + 1 + 1 + 1))
  else if ¬ (0 ≤ lt1 (ww b n (j + 1 + 1 + 1)) ∧ lt1 (ww b n (j + 1 + 1 + 1)) < T 0) then Sum.inl (3, ss b n (j + 1 + 1 + 1))
  else if gS T m f (2 + lt1 (ww b n (j + 1 + 1 + 1))) ≠ 0 then Sum.inl (2, ss b n (j + 1 + 1 + 1))
  else match pNum b n 0 (gO T m 2 - 1) (j + 1 + 1 + 1 + 1) with
    | Sum.inl e => Sum.inl e
    | Sum.inr t => Sum.inr (j + 1 + 1 + 1 + 1 + 1, uC T m f (2 + lt1 (ww b n (j + 1 + 1 + 1))) (t + 1), W, tr)
def pAcc (b : Int → Int) (n j : Int) (T : Int → Int) (W : Int → List Int) (tr m f : Int) : PRs :=
  if gS T m f 0 ≠ 0 then Sum.inl (2, ss b n (j + 1 + 1)) else Sum.inr (j + 1 + 1 + 1, uC T m f 0 1, W, tr)
def pTire (b : Int → Int) (n j : Int) (T : Int → Int) (W : Int → List Int) (tr m f : Int) : PRs :=
  if gS T m f 1 ≠ 0 then Sum.inl (2, ss b n (j + 1 + 1))
  else match pNum b n 1 99 (j + 1 + 1 + 1) with
    | Sum.inl e => Sum.inl e
    | Sum.inr t => Sum.inr (j + 1 + 1 + 1 + 1, uC T m f 1 t, W, tr)
def pStm (b : Int → Int) (n : Int) (S : PSt) : PRs :=
  if kk b n S.1 = 1 ∧ ww b n S.1 = kw (-2) then pMach b n S.1 S.2.1 S.2.2.1 S.2.2.2
  else if kk b n S.1 = 1 ∧ ww b n S.1 = kw (-4) then pTurn b n S.1 S.2.1 S.2.2.1 S.2.2.2
  else if kk b n S.1 = 1 ∧ ww b n S.1 = kw (-5) then (match pHead b n S.1 S.2.1 S.2.2.1 with | Sum.inl e => Sum.inl e | Sum.inr mf => pGo b n S.1 S.2.1 S.2.2.1 S.2.2.2 mf.1 mf.2)
  else if kk b n S.1 = 1 ∧ ww b n S.1 = kw (-6) then (match pHead b n S.1 S.2.1 S.2.2.1 with | Sum.inl e => Sum.inl e | Sum.inr mf => pAcc b n S.1 S.2.1 S.2.2.1 S.2.2.2 mf.1 mf.2)
  else if kk b n S.1 = 1 ∧ ww b n S.1 = kw (-7) then (match pHead b n S.1 S.2.1 S.2.2.1 with | Sum.inl e => Sum.inl e | Sum.inr mf => pTire b n S.1 S.2.1 S.2.2.1 S.2.2.2 mf.1 mf.2)
  else Sum.inl (1, ss b n S.1)
theorem kw_ne : kw (-2) ≠ kw (-4) ∧ kw (-2) ≠ kw (-5) ∧ kw (-2) ≠ kw (-6) ∧ kw (-2) ≠ kw (-7) ∧ kw (-4) ≠ kw (-5) ∧ kw (-4) ≠ kw (-6) ∧ kw (-4) ≠ kw (-7) ∧ kw (-5) ≠ kw (-6) ∧ kw (-5) ≠ kw (-7) ∧ kw (-6) ≠ kw (-7) := by decide +kernel
theorem gNm_rng {W : Int → List Int} {x : List Int} {m : Int} (hm : 0 ≤ m) : gNm W x m = -1 ∨ 0 ≤ gNm W x m ∧ gNm W x m < m := by
  rcases nm_rng (W := W) (x := x) m.toNat with z | z
  · exact Or.inl z
  · exact Or.inr ⟨z.1, by have := z.2; unfold gNm; omega⟩
/-- what is told so far is in its bounds -/
def DWf (T : Int → Int) : Prop := (1 ≤ T 0 ∧ T 0 ≤ 4) ∧ (0 ≤ T 1 ∧ T 1 ≤ 4) ∧ (1 ≤ T 2 ∧ T 2 ≤ 20) ∧ (0 ≤ T 3 ∧ T 3 ≤ 99) ∧ (∀ k, 0 ≤ k → k < 164 → 0 ≤ T k ∧ T k ≤ 999) ∧ ∀ m, 0 ≤ m → m < 4 → (m < T 1 → 1 ≤ gO T m 1 ∧ gO T m 1 ≤ 9 ∧ 1 ≤ gO T m 2 ∧ gO T m 2 ≤ 6) ∧ gO T m 3 ≤ 1 ∧ (T 1 ≤ m → ∀ w, 0 ≤ w → w < 40 → gO T m w = 0) ∧ ∀ t, 0 ≤ t → t < 6 → (gS T m t 0 ≤ 1 ∧ gS T m t 1 ≤ 99) ∧ ∀ l, 0 ≤ l → l < 4 → gS T m t (2 + l) ≤ gO T m 2
theorem dwf_twf {T : Int → Int} (h : DWf T) : TWf T := ⟨h.1, h.2.1, h.2.2.1, h.2.2.2.1, h.2.2.2.2.1, fun m h1 h2 => by
  have hm := h.2.2.2.2.2 m h1 (by have := h.2.1; omega)
  have a := hm.1 h2
  exact ⟨⟨a.1, a.2.1, a.2.2.1, a.2.2.2, hm.2.1⟩, hm.2.2.2⟩⟩
theorem cell_ne {m m' t w w' : Int} (ht : 0 ≤ t) (ht2 : t < 6) (hw : 0 ≤ w) (hw2 : w < 6) (hw' : 0 ≤ w') (hw'2 : w' < 4) : 4 + 40 * m' + w' ≠ 4 + 40 * m + (4 + 6 * t + w) := by
  intro e
  have h : 1 ≤ 4 + 6 * t + w - w' ∧ 4 + 6 * t + w - w' ≤ 39 := by omega
  generalize 4 + 6 * t + w - w' = u at *
  have h2 : 40 * m' = 40 * m + u := by omega
  omega
theorem cell_eq {m m' t t' w w' : Int} (ht : 0 ≤ t) (ht2 : t < 6) (hw : 0 ≤ w) (hw2 : w < 6) (ht' : 0 ≤ t') (ht'2 : t' < 6) (hw' : 0 ≤ w') (hw'2 : w' < 6) (e : 4 + 40 * m' + (4 + 6 * t' + w') = 4 + 40 * m + (4 + 6 * t + w)) : m' = m ∧ t' = t ∧ w' = w := by
  have h1 : m' = m := by
    have a : 0 ≤ 6 * t' + w' ∧ 6 * t' + w' ≤ 35 := by omega
    have c : 0 ≤ 6 * t + w ∧ 6 * t + w ≤ 35 := by omega
    generalize hu : 6 * t' + w' = u at *
    generalize hv : 6 * t + w = v at *
    have e2 : 40 * m' + u = 40 * m + v := by omega
    omega
  have h2 : 6 * t' + w' = 6 * t + w := by omega
  have h3 : t' = t := by omega
  exact ⟨h1, h3, by omega⟩
theorem uC_lo {T : Int → Int} {m t w v k : Int} (hm : 0 ≤ m) (ht : 0 ≤ t) (hw : 0 ≤ w) (hk : k < 4) : uC T m t w v k = T k := up1_k (by omega)
theorem gO_uC {T : Int → Int} {m t w v m' w' : Int} (hm : 0 ≤ m) (ht : 0 ≤ t) (ht2 : t < 6) (hw : 0 ≤ w) (hw2 : w < 6) (hm' : 0 ≤ m') (hw' : 0 ≤ w') (hw'2 : w' < 4) : gO (uC T m t w v) m' w' = gO T m' w' := up1_k (cell_ne ht ht2 hw hw2 hw' hw'2)
theorem gO_uC2 {T : Int → Int} {m t w v m' w' : Int} (hm : 0 ≤ m) (ht : 0 ≤ t) (ht2 : t < 6) (hw : 0 ≤ w) (hw2 : w < 6) (hm' : m' ≠ m) (hw' : 0 ≤ w') (hw'2 : w' < 40) : gO (uC T m t w v) m' w' = gO T m' w' := up1_k (by omega)
theorem gS_uC {T : Int → Int} {m t w v m' t' w' : Int} (ht : 0 ≤ t) (ht2 : t < 6) (hw : 0 ≤ w) (hw2 : w < 6) (ht' : 0 ≤ t') (ht'2 : t' < 6) (hw' : 0 ≤ w') (hw'2 : w' < 6) : gS (uC T m t w v) m' t' w' = if m' = m ∧ t' = t ∧ w' = w then v else gS T m' t' w' := by
  unfold gS gO uC up1
  by_cases h : m' = m ∧ t' = t ∧ w' = w
  · rw [if_pos h, if_pos (by omega)]
  · rw [if_neg h, if_neg (fun z => h (cell_eq ht ht2 hw hw2 ht' ht'2 hw' hw'2 z))]
theorem dwf_uC {T : Int → Int} {m t w v : Int} (h : DWf T) (hm : 0 ≤ m) (hm2 : m < T 1) (ht : 0 ≤ t) (ht2 : t < 6) (hw : 0 ≤ w) (hw2 : w < 6) (hv : 0 ≤ v ∧ v ≤ 99) (h0 : w = 0 → v ≤ 1) (h2 : 2 ≤ w → v ≤ gO T m 2) : DWf (uC T m t w v) := by
  obtain ⟨a0, a1, a2, a3, a4, a5⟩ := h
  refine ⟨by rw [uC_lo hm ht hw (by omega)]; exact a0, by rw [uC_lo hm ht hw (by omega)]; exact a1, by rw [uC_lo hm ht hw (by omega)]; exact a2, by rw [uC_lo hm ht hw (by omega)]; exact a3, fun k k1 k2 => ?_, fun m' m1 m2 => ?_⟩
  · unfold uC up1
    split
    · omega
    · exact a4 k k1 k2
  · have b := a5 m' m1 m2
    rw [uC_lo hm ht hw (by omega), gO_uC hm ht ht2 hw hw2 m1 (by omega) (by omega), gO_uC hm ht ht2 hw hw2 m1 (by omega) (by omega), gO_uC hm ht ht2 hw hw2 m1 (by omega) (by omega)]
    refine ⟨b.1, b.2.1, fun z w' w1 w2 => ?_, fun t' t1 t2 => ⟨?_, fun l l1 l2 => ?_⟩⟩
    · rw [gO_uC2 hm ht ht2 hw hw2 (by omega) w1 w2]
      exact b.2.2.1 z w' w1 w2
    · rw [gS_uC ht ht2 hw hw2 t1 t2 (by omega) (by omega), gS_uC ht ht2 hw hw2 t1 t2 (by omega) (by omega)]
      have c := (b.2.2.2 t' t1 t2).1
      refine ⟨?_, ?_⟩
      · split
        · exact h0 (by omega)
        · exact c.1
      · split
        · exact hv.2
        · exact c.2
    · rw [gS_uC ht ht2 hw hw2 t1 t2 (by omega) (by omega)]
      have c := (b.2.2.2 t' t1 t2).2 l l1 l2
      split
      · rename_i z
        rw [z.1]
        exact h2 (by omega)
      · exact c
theorem uM_1 {T : Int → Int} {c g q ls : Int} : uM T c g q ls 1 = T 1 + 1 := up1_s
theorem uM_lo {T : Int → Int} {c g q ls k : Int} (h1 : 0 ≤ T 1) (hk : k < 4) (hk1 : k ≠ 1) : uM T c g q ls k = T k := by
  unfold uM
  rw [up1_k hk1, up1_k (by omega), up1_k (by omega), up1_k (by omega), up1_k (by omega)]
theorem gO_uM {T : Int → Int} {c g q ls m w : Int} (h1 : 0 ≤ T 1) (hm : 0 ≤ m) (hw : 0 ≤ w) (hw2 : w < 40) : gO (uM T c g q ls) m w = if m = T 1 then (if w = 0 then c else if w = 1 then g else if w = 2 then q else if w = 3 then ls else gO T m w) else gO T m w := by
  unfold gO uM
  rw [up1_k (by omega)]
  unfold up1
  by_cases h : m = T 1
  · rw [if_pos h, h]
    by_cases e3 : w = 3
    · rw [if_pos (by omega), if_neg (by omega), if_neg (by omega), if_neg (by omega), if_pos e3]
    · by_cases e2 : w = 2
      · rw [if_neg (by omega), if_pos (by omega), if_neg (by omega), if_neg (by omega), if_pos e2]
      · by_cases e1 : w = 1
        · rw [if_neg (by omega), if_neg (by omega), if_pos (by omega), if_neg (by omega), if_pos e1]
        · by_cases e0 : w = 0
          · rw [if_neg (by omega), if_neg (by omega), if_neg (by omega), if_pos (by omega), if_pos e0]
          · rw [if_neg (by omega), if_neg (by omega), if_neg (by omega), if_neg (by omega), if_neg e0, if_neg e1, if_neg e2, if_neg e3]
  · rw [if_neg h, if_neg (by omega), if_neg (by omega), if_neg (by omega), if_neg (by omega)]
theorem gS_uM {T : Int → Int} {c g q ls m t w : Int} (h1 : 0 ≤ T 1) (hm : 0 ≤ m) (ht : 0 ≤ t) (ht2 : t < 6) (hw : 0 ≤ w) (hw2 : w < 6) : gS (uM T c g q ls) m t w = gS T m t w := by
  show gO (uM T c g q ls) m (4 + 6 * t + w) = gO T m (4 + 6 * t + w)
  rw [gO_uM h1 hm (by omega) (by omega), if_neg (show ¬ (4 + 6 * t + w = 0) by omega), if_neg (show ¬ (4 + 6 * t + w = 1) by omega), if_neg (show ¬ (4 + 6 * t + w = 2) by omega), if_neg (show ¬ (4 + 6 * t + w = 3) by omega)]
  split <;> rfl
theorem dwf_uM {T : Int → Int} {c g q ls : Int} (h : DWf T) (h4 : T 1 < 4) (hc : 0 ≤ c ∧ c ≤ 999) (hg : 1 ≤ g ∧ g ≤ 9) (hq : 1 ≤ q ∧ q ≤ 6) (hl : ls = 0 ∨ ls = 1) : DWf (uM T c g q ls) := by
  obtain ⟨a0, a1, a2, a3, a4, a5⟩ := h
  refine ⟨by rw [uM_lo a1.1 (by omega) (by omega)]; exact a0, by rw [uM_1]; omega, by rw [uM_lo a1.1 (by omega) (by omega)]; exact a2, by rw [uM_lo a1.1 (by omega) (by omega)]; exact a3, fun k k1 k2 => ?_, fun m m1 m2 => ?_⟩
  · have := a4 k k1 k2
    unfold uM up1
    (repeat' split) <;> omega
  · have b := a5 m m1 m2
    rw [uM_1, gO_uM a1.1 m1 (by omega) (by omega), gO_uM a1.1 m1 (by omega) (by omega), gO_uM a1.1 m1 (by omega) (by omega)]
    simp only [↓reduceIte, Int.reduceEq]
    refine ⟨fun z => ?_, ?_, fun z w w1 w2 => ?_, fun t t1 t2 => ⟨?_, fun l l1 l2 => ?_⟩⟩
    · by_cases e : m = T 1
      · simp only [if_pos e]; omega
      · simp only [if_neg e]; exact b.1 (by omega)
    · split
      · omega
      · exact b.2.1
    · rw [gO_uM a1.1 m1 w1 w2, if_neg (by omega)]
      exact b.2.2.1 (by omega) w w1 w2
    · rw [gS_uM a1.1 m1 t1 t2 (by omega) (by omega), gS_uM a1.1 m1 t1 t2 (by omega) (by omega)]
      exact (b.2.2.2 t t1 t2).1
    · rw [gS_uM a1.1 m1 t1 t2 (by omega) (by omega)]
      have c := (b.2.2.2 t t1 t2).2 l l1 l2
      split
      · rename_i e
        have z := b.2.2.1 (by omega) (4 + 6 * t + (2 + l)) (by omega) (by omega)
        have z2 : gS T m t (2 + l) = 0 := z
        omega
      · exact c
theorem dwf_turn {T : Int → Int} {a c : Int} (h : DWf T) (ha : 1 ≤ a ∧ a ≤ 20) (hc : 0 ≤ c ∧ c ≤ 99) : DWf (up1 (up1 T 2 a) 3 c) := by
  obtain ⟨a0, a1, a2, a3, a4, a5⟩ := h
  have e : ∀ m w, 0 ≤ m → 0 ≤ w → gO (up1 (up1 T 2 a) 3 c) m w = gO T m w := fun m w h1 h2 => by
    unfold gO
    rw [up1_k (by omega), up1_k (by omega)]
  have e2 : ∀ m t w, 0 ≤ m → 0 ≤ t → 0 ≤ w → gS (up1 (up1 T 2 a) 3 c) m t w = gS T m t w := fun m t w h1 h2 h3 => e m _ h1 (by omega)
  refine ⟨by rw [up1_k (by omega), up1_k (by omega)]; exact a0, by rw [up1_k (by omega), up1_k (by omega)]; exact a1, by rw [up1_k (by omega), up1_s]; exact ha, by rw [up1_s]; exact hc, fun k k1 k2 => ?_, fun m m1 m2 => ?_⟩
  · have := a4 k k1 k2
    unfold up1
    (repeat' split) <;> omega
  · have b := a5 m m1 m2
    rw [up1_k (by omega), up1_k (by omega), e m 1 m1 (by omega), e m 2 m1 (by omega), e m 3 m1 (by omega)]
    refine ⟨b.1, b.2.1, fun z w w1 w2 => ?_, fun t t1 t2 => ⟨?_, fun l l1 l2 => ?_⟩⟩
    · rw [e m w m1 w1]; exact b.2.2.1 z w w1 w2
    · rw [e2 m t 0 m1 t1 (by omega), e2 m t 1 m1 t1 (by omega)]; exact (b.2.2.2 t t1 t2).1
    · rw [e2 m t (2 + l) m1 t1 (by omega)]; exact (b.2.2.2 t t1 t2).2 l l1 l2
/-- the class's draft against the row that is read -/
def DRel (h : PF) (p : Int) (T : Int → Int) : Prop := (h p 0 = T 0 ∧ h p 1 = T 1 ∧ h p 3 = T 2 ∧ h p 4 = T 3 ∧ 0 ≤ h p 2 ∧ h p 2 < 64) ∧ ∀ m, 0 ≤ m → m < 4 → ((m < T 1 → h (p + 1) m = gO T m 0 ∧ h (p + 2) m = gO T m 1 ∧ h (p + 3) m = gO T m 2) ∧ (pand (pshr (h p 2) m) 1 = 1 ↔ gO T m 3 = 1) ∧ 0 ≤ h (p + 4) m ∧ h (p + 4) m < 64) ∧ ∀ t, 0 ≤ t → t < 6 → ((pand (pshr (h (p + 4) m) t) 1 = 1 ↔ gS T m t 0 = 1) ∧ h (p + 5) (m * 6 + t) = (if gS T m t 1 = 0 then -1 else gS T m t 1)) ∧ ∀ l, 0 ≤ l → l < 4 → h (p + 6) ((m * 6 + t) * 4 + l) = gGo T m t l
theorem dr_pr {h : PF} {p : Int} {T : Int → Int} (hD : DRel h p T) (hW : DWf T) : PlanRel h p T := ⟨hD.1, fun m h1 h2 => by
  have hm := hD.2 m h1 (by have := hW.2.1; omega)
  have a := hm.1.1 h2
  exact ⟨⟨a.1, a.2.1, a.2.2, hm.1.2.1, hm.1.2.2⟩, hm.2⟩⟩
theorem dr_fr {h h' : PF} {p : Int} {T : Int → Int} (hf : ∀ a, p ≤ a → a ≤ p + 6 → h' a = h a) (hD : DRel h p T) : DRel h' p T := by
  unfold DRel at hD ⊢
  rw [hf p (by omega) (by omega), hf (p + 1) (by omega) (by omega), hf (p + 2) (by omega) (by omega), hf (p + 3) (by omega) (by omega), hf (p + 4) (by omega) (by omega), hf (p + 5) (by omega) (by omega), hf (p + 6) (by omega) (by omega)]
  exact hD
theorem dr_turn {h : PF} {p a c : Int} {T : Int → Int} (hD : DRel h p T) : DRel (fup (fup h p 3 a) p 4 c) p (up1 (up1 T 2 a) 3 c) := by
  have e : ∀ m w, 0 ≤ m → 0 ≤ w → gO (up1 (up1 T 2 a) 3 c) m w = gO T m w := fun m w h1 h2 => by
    unfold gO
    rw [up1_k (by omega), up1_k (by omega)]
  have e2 : ∀ m t w, 0 ≤ m → 0 ≤ t → 0 ≤ w → gS (up1 (up1 T 2 a) 3 c) m t w = gS T m t w := fun m t w h1 h2 h3 => e m _ h1 (by omega)
  have r : ∀ x, x ≠ p → fup (fup h p 3 a) p 4 c x = h x := fun x hx => by rw [fup_r hx, fup_r hx]
  unfold DRel
  rw [r (p + 1) (by omega), r (p + 2) (by omega), r (p + 3) (by omega), r (p + 4) (by omega), r (p + 5) (by omega), r (p + 6) (by omega)]
  refine ⟨⟨by rw [fup_k (by omega), fup_k (by omega), up1_k (by omega), up1_k (by omega)]; exact hD.1.1, by rw [fup_k (by omega), fup_k (by omega), up1_k (by omega), up1_k (by omega)]; exact hD.1.2.1, by rw [fup_k (by omega), fup_s, up1_k (by omega), up1_s], by rw [fup_s, up1_s], by rw [fup_k (by omega), fup_k (by omega)]; exact hD.1.2.2.2.2.1, by rw [fup_k (by omega), fup_k (by omega)]; exact hD.1.2.2.2.2.2⟩, fun m m1 m2 => ?_⟩
  have hm := hD.2 m m1 m2
  rw [up1_k (by omega), up1_k (by omega), e m 0 m1 (by omega), e m 1 m1 (by omega), e m 2 m1 (by omega), e m 3 m1 (by omega), fup_k (by omega), fup_k (by omega)]
  refine ⟨hm.1, fun t t1 t2 => ⟨?_, fun l l1 l2 => ?_⟩⟩
  · rw [e2 m t 0 m1 t1 (by omega), e2 m t 1 m1 t1 (by omega)]; exact (hm.2 t t1 t2).1
  · unfold gGo
    rw [e2 m t (2 + l) m1 t1 (by omega)]; exact (hm.2 t t1 t2).2 l l1 l2
/-- one cell of a state -/
theorem dr_cell {h h' : PF} {p m t w v : Int} {T : Int → Int} (hD : DRel h p T) (hm : 0 ≤ m) (hm2 : m < 4) (ht : 0 ≤ t) (ht2 : t < 6) (hw : 0 ≤ w) (hw2 : w < 6) (r0 : h' p = h p) (r1 : h' (p + 1) = h (p + 1)) (r2 : h' (p + 2) = h (p + 2)) (r3 : h' (p + 3) = h (p + 3)) (g : ∀ m' t', 0 ≤ m' → m' < 4 → 0 ≤ t' → t' < 6 → (0 ≤ h' (p + 4) m' ∧ h' (p + 4) m' < 64) ∧ (pand (pshr (h' (p + 4) m') t') 1 = 1 ↔ gS (uC T m t w v) m' t' 0 = 1) ∧ h' (p + 5) (m' * 6 + t') = (if gS (uC T m t w v) m' t' 1 = 0 then -1 else gS (uC T m t w v) m' t' 1) ∧ ∀ l, 0 ≤ l → l < 4 → h' (p + 6) ((m' * 6 + t') * 4 + l) = gGo (uC T m t w v) m' t' l) : DRel h' p (uC T m t w v) := by
  unfold DRel
  rw [r0, r1, r2, r3, uC_lo hm ht hw (by omega), uC_lo hm ht hw (by omega), uC_lo hm ht hw (by omega), uC_lo hm ht hw (by omega)]
  refine ⟨hD.1, fun m' m1 m2 => ?_⟩
  have b := hD.2 m' m1 m2
  rw [gO_uC hm ht ht2 hw hw2 m1 (by omega) (by omega), gO_uC hm ht ht2 hw hw2 m1 (by omega) (by omega), gO_uC hm ht ht2 hw hw2 m1 (by omega) (by omega), gO_uC hm ht ht2 hw hw2 m1 (by omega) (by omega)]
  exact ⟨⟨b.1.1, b.1.2.1, (g m' 0 m1 m2 (by omega) (by omega)).1⟩, fun t' t1 t2 => ⟨⟨(g m' t' m1 m2 t1 t2).2.1, (g m' t' m1 m2 t1 t2).2.2.1⟩, (g m' t' m1 m2 t1 t2).2.2.2⟩⟩
theorem dr_goal {h : PF} {p m f : Int} {T : Int → Int} (hD : DRel h p T) (hm : 0 ≤ m) (hm2 : m < 4) (ht : 0 ≤ f) (ht2 : f < 6) : DRel (fup h (p + 4) m (por (h (p + 4) m) (pshl 1 f))) p (uC T m f 0 1) := by
  refine dr_cell hD hm hm2 ht ht2 (by omega) (by omega) (fup_r (by omega)) (fup_r (by omega)) (fup_r (by omega)) (fup_r (by omega)) (fun m' t' m1 m2 t1 t2 => ?_)
  have b := hD.2 m' m1 m2
  have c := b.2 t' t1 t2
  rw [fup_a (show p + 5 ≠ p + 4 by omega), fup_r (show p + 6 ≠ p + 4 by omega), gS_uC ht ht2 (by omega) (by omega) t1 t2 (by omega) (by omega), gS_uC ht ht2 (by omega) (by omega) t1 t2 (by omega) (by omega), if_neg (show ¬ (m' = m ∧ t' = f ∧ (1 : Int) = 0) by omega)]
  refine ⟨?_, ?_, c.1.2, fun l l1 l2 => ?_⟩
  · by_cases e : m' = m
    · rw [e, fup_s]
      rw [e] at b
      exact por_rng b.1.2.2.1 b.1.2.2.2 ht ht2
    · rw [fup_k e]; exact b.1.2.2
  · by_cases e : m' = m
    · rw [e] at b c ⊢
      rw [fup_s, por_bit b.1.2.2.1 b.1.2.2.2 ht ht2 t1 t2]
      by_cases e2 : t' = f
      · rw [if_pos ⟨rfl, e2, rfl⟩]
        exact ⟨fun _ => rfl, fun _ => Or.inl e2⟩
      · rw [if_neg (fun z => e2 z.2.1), ← c.1.1]
        exact ⟨fun z => by rcases z with y | y; exact absurd y e2; exact y, fun z => Or.inr z⟩
    · rw [fup_k e, if_neg (fun z => e z.1)]; exact c.1.1
  · unfold gGo
    rw [gS_uC ht ht2 (by omega) (by omega) t1 t2 (by omega) (by omega), if_neg (by omega)]
    exact c.2 l l1 l2
theorem dr_time {h : PF} {p m f v : Int} {T : Int → Int} (hD : DRel h p T) (hm : 0 ≤ m) (hm2 : m < 4) (ht : 0 ≤ f) (ht2 : f < 6) (hv : 1 ≤ v) : DRel (fup h (p + 5) (m * 6 + f) v) p (uC T m f 1 v) := by
  refine dr_cell hD hm hm2 ht ht2 (by omega) (by omega) (fup_r (by omega)) (fup_r (by omega)) (fup_r (by omega)) (fup_r (by omega)) (fun m' t' m1 m2 t1 t2 => ?_)
  have b := hD.2 m' m1 m2
  have c := b.2 t' t1 t2
  rw [fup_r (show p + 4 ≠ p + 5 by omega), fup_r (show p + 6 ≠ p + 5 by omega), gS_uC ht ht2 (by omega) (by omega) t1 t2 (by omega) (by omega), gS_uC ht ht2 (by omega) (by omega) t1 t2 (by omega) (by omega), if_neg (show ¬ (m' = m ∧ t' = f ∧ (0 : Int) = 1) by omega)]
  refine ⟨b.1.2.2, c.1.1, ?_, fun l l1 l2 => ?_⟩
  · by_cases e : m' = m ∧ t' = f
    · rw [if_pos (show m' = m ∧ t' = f ∧ (1 : Int) = 1 from ⟨e.1, e.2, rfl⟩), if_neg (show ¬ v = 0 by omega), e.1, e.2, fup_s]
    · rw [fup_k (by omega), if_neg (show ¬ (m' = m ∧ t' = f ∧ (1 : Int) = 1) from fun z => e ⟨z.1, z.2.1⟩)]; exact c.1.2
  · unfold gGo
    rw [gS_uC ht ht2 (by omega) (by omega) t1 t2 (by omega) (by omega), if_neg (by omega)]
    exact c.2 l l1 l2
theorem dr_targ {h : PF} {p m f l v : Int} {T : Int → Int} (hD : DRel h p T) (hm : 0 ≤ m) (hm2 : m < 4) (ht : 0 ≤ f) (ht2 : f < 6) (hl : 0 ≤ l) (hl2 : l < 4) : DRel (fup h (p + 6) ((m * 6 + f) * 4 + l) v) p (uC T m f (2 + l) (v + 1)) := by
  refine dr_cell hD hm hm2 ht ht2 (by omega) (by omega) (fup_r (by omega)) (fup_r (by omega)) (fup_r (by omega)) (fup_r (by omega)) (fun m' t' m1 m2 t1 t2 => ?_)
  have b := hD.2 m' m1 m2
  have c := b.2 t' t1 t2
  rw [fup_r (show p + 4 ≠ p + 6 by omega), fup_r (show p + 5 ≠ p + 6 by omega), gS_uC ht ht2 (by omega) (by omega) t1 t2 (by omega) (by omega), gS_uC ht ht2 (by omega) (by omega) t1 t2 (by omega) (by omega), if_neg (show ¬ (m' = m ∧ t' = f ∧ (0 : Int) = 2 + l) by omega), if_neg (show ¬ (m' = m ∧ t' = f ∧ (1 : Int) = 2 + l) by omega)]
  refine ⟨b.1.2.2, c.1.1, c.1.2, fun l' l1 l2 => ?_⟩
  unfold gGo
  rw [gS_uC ht ht2 (by omega) (by omega) t1 t2 (by omega) (by omega)]
  by_cases e : m' = m ∧ t' = f ∧ l' = l
  · rw [if_pos (show m' = m ∧ t' = f ∧ 2 + l' = 2 + l by omega), e.1, e.2.1, e.2.2, fup_s]; omega
  · rw [fup_k (by omega), if_neg (show ¬ (m' = m ∧ t' = f ∧ 2 + l' = 2 + l) by omega)]
    exact c.2 l' l1 l2
theorem dr_mach {h h' : PF} {p c g q ls : Int} {T : Int → Int} (hD : DRel h p T) (hW : DWf T) (h4 : T 1 < 4) (e0 : h' p 0 = h p 0) (e1 : h' p 1 = T 1 + 1) (e3 : h' p 3 = h p 3) (e4 : h' p 4 = h p 4) (e2 : ls = 1 ∧ h' p 2 = por (h p 2) (pshl 1 (T 1)) ∨ ls = 0 ∧ h' p 2 = h p 2) (c1 : h' (p + 1) = up1 (h (p + 1)) (T 1) c) (c2 : h' (p + 2) = up1 (h (p + 2)) (T 1) g) (c3 : h' (p + 3) = up1 (h (p + 3)) (T 1) q) (r4 : h' (p + 4) = h (p + 4)) (r5 : h' (p + 5) = h (p + 5)) (r6 : h' (p + 6) = h (p + 6)) : DRel h' p (uM T c g q ls) := by
  have h1 := hW.2.1
  obtain ⟨⟨d0, d1, d3, d4, d5, d6⟩, dm⟩ := hD
  have hrng : 0 ≤ h' p 2 ∧ h' p 2 < 64 := by
    rcases e2 with z | z
    · rw [z.2]; exact por_rng d5 d6 h1.1 (by omega)
    · rw [z.2]; exact ⟨d5, d6⟩
  unfold DRel
  rw [e0, e1, e3, e4, c1, c2, c3, r4, r5, r6, uM_1, uM_lo h1.1 (by omega) (by omega), uM_lo h1.1 (by omega) (by omega), uM_lo h1.1 (by omega) (by omega)]
  refine ⟨⟨d0, rfl, d3, d4, hrng.1, hrng.2⟩, fun m m1 m2 => ?_⟩
  have b := dm m m1 m2
  rw [gO_uM h1.1 m1 (by omega) (by omega), gO_uM h1.1 m1 (by omega) (by omega), gO_uM h1.1 m1 (by omega) (by omega), gO_uM h1.1 m1 (by omega) (by omega)]
  simp only [↓reduceIte, Int.reduceEq]
  refine ⟨⟨fun z => ?_, ?_, b.1.2.2⟩, fun t t1 t2 => ⟨?_, fun l l1 l2 => ?_⟩⟩
  · by_cases e : m = T 1
    · rw [e, up1_s, up1_s, up1_s]
      simp only [↓reduceIte, and_self]
    · rw [up1_k e, up1_k e, up1_k e]
      simp only [if_neg e]
      exact b.1.1 (by omega)
  · by_cases e : m = T 1
    · rw [if_pos e]
      have z0 : ¬ (pand (pshr (h p 2) m) 1 = 1) := fun z => by
        have := b.1.2.1.mp z
        rw [(hW.2.2.2.2.2 m m1 m2).2.2.1 (by omega) 3 (by omega) (by omega)] at this
        omega
      rcases e2 with z | z
      · rw [z.1, z.2, por_bit d5 d6 h1.1 (by omega) m1 (by omega)]
        exact ⟨fun _ => rfl, fun _ => Or.inl e⟩
      · rw [z.1, z.2]
        exact ⟨fun y => absurd y z0, fun y => absurd y (by decide)⟩
    · rw [if_neg e, ← b.1.2.1]
      rcases e2 with z | z
      · rw [z.2, por_bit d5 d6 h1.1 (by omega) m1 (by omega)]
        exact ⟨fun y => by rcases y with x | x; exact absurd x e; exact x, fun y => Or.inr y⟩
      · rw [z.2]
  · rw [gS_uM h1.1 m1 t1 t2 (by omega) (by omega), gS_uM h1.1 m1 t1 t2 (by omega) (by omega)]
    exact (b.2 t t1 t2).1
  · unfold gGo
    rw [gS_uM h1.1 m1 t1 t2 (by omega) (by omega)]
    exact (b.2 t t1 t2).2 l l1 l2
