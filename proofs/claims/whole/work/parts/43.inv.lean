/-! WHAT HOLDS BETWEEN CALLS -/
def uRow (h : PF) (a k : Int) : Int → Int := fun i => h a (195 * k + i)
def undoB (e u k : Int) : Int := 24 + 10 * (if e - u + k < 0 then e - u + k + 10 else e - u + k)
def UndoRel (h : PF) (T : Int → Int) : Prop := h 21 0 = h 178 26 ∧ (0 ≤ h 178 26 ∧ h 178 26 ≤ 10) ∧ (0 ≤ h 21 1 ∧ h 21 1 < 10) ∧ ∀ k, 0 ≤ k → k < h 178 26 → StRel h (undoB (h 21 1) (h 178 26) k) T (uRow h 192 k) ∧ NWf T (uRow h 192 k)
def SlotRel (h : PF) (T : Int → Int) : Prop := (0 ≤ h 21 2 ∧ h 21 2 < 4) ∧ ∀ k, 0 ≤ k → k < 2 → (h 194 k = 0 ∨ h 194 k = 1) ∧ (pand (pshr (h 21 2) k) 1 = 1 ↔ h 194 k = 1) ∧ (h 194 k = 1 → StRel h (124 + 10 * k) T (uRow h 193 k) ∧ NWf T (uRow h 193 k))
def TextRel (h : PF) : Prop := (0 ≤ h 2 0 ∧ h 2 0 ≤ 600) ∧ h 178 4 = h 2 0 ∧ (∀ k, 0 ≤ k → k < h 2 0 → h 3 k = h 181 k ∧ -128 ≤ h 181 k ∧ h 181 k ≤ 127) ∧ h 2 2 = h 178 12
def SearchOk (h : PF) : Prop := (0 ≤ h 15 3 ∧ h 15 3 ≤ 1296) ∧ (∀ i, 0 ≤ i → i < h 15 3 → 0 ≤ h 17 i ∧ h 17 i < 2401) ∧ ∀ c, 0 ≤ c → c < 2401 → h 16 c ≠ 0 → ∃ i, 0 ≤ i ∧ i < h 15 3 ∧ h 17 i = c
def RefOk (r : PF) : Prop := WFr r ∧ (r 1 6 = 164 ∧ r 1 7 = 171 ∨ r 1 6 = 171 ∧ r 1 7 = 164) ∧ (r 15 4 = 19 ∧ r 15 5 = 20 ∨ r 15 4 = 20 ∧ r 15 5 = 19)
def Inv (h r : PF) : Prop := RefOk r ∧ TWf (h 179) ∧ NWf (h 179) (h 180) ∧ PlanRel h (r 1 6) (h 179) ∧ StRel h 144 (h 179) (h 180) ∧ UndoRel h (h 179) ∧ SlotRel h (h 179) ∧ TextRel h ∧ SearchOk h
/-- the rows that count are the same -/
def Core (a : Int) : Prop := a = 2 ∨ a = 3 ∨ (15 ≤ a ∧ a ≤ 17) ∨ a = 21 ∨ (24 ≤ a ∧ a ≤ 153) ∨ (164 ≤ a ∧ a ≤ 177) ∨ (179 ≤ a ∧ a ≤ 181) ∨ (192 ≤ a ∧ a ≤ 194)
def Same (h h' : PF) : Prop := (∀ a, Core a → h' a = h a) ∧ h' 178 4 = h 178 4 ∧ h' 178 12 = h 178 12 ∧ h' 178 26 = h 178 26
theorem undoB_rng {e u k : Int} (he : 0 ≤ e) (he2 : e < 10) (hu : 0 ≤ u) (hu2 : u ≤ 10) (hk : 0 ≤ k) (hk2 : k < u) : 24 ≤ undoB e u k ∧ undoB e u k ≤ 114 := by
  unfold undoB
  split <;> omega
theorem inv_same {h h' r : PF} (hI : Inv h r) (hs : Same h h') : Inv h' r := by
  obtain ⟨hr, hT, hN, hR, hS, hU, hL, hX, hF⟩ := hI
  obtain ⟨hc, h4, h12, h26⟩ := hs
  have c : ∀ a, Core a → h' a = h a := hc
  have e2 := c 2 (by unfold Core; omega)
  have e3 := c 3 (by unfold Core; omega)
  have e15 := c 15 (by unfold Core; omega)
  have e16 := c 16 (by unfold Core; omega)
  have e17 := c 17 (by unfold Core; omega)
  have e21 := c 21 (by unfold Core; omega)
  have e179 := c 179 (by unfold Core; omega)
  have e180 := c 180 (by unfold Core; omega)
  have e181 := c 181 (by unfold Core; omega)
  have e192 := c 192 (by unfold Core; omega)
  have e193 := c 193 (by unfold Core; omega)
  have e194 := c 194 (by unfold Core; omega)
  have eu : ∀ k, uRow h' 192 k = uRow h 192 k := fun k => by unfold uRow; rw [e192]
  have eu3 : ∀ k, uRow h' 193 k = uRow h 193 k := fun k => by unfold uRow; rw [e193]
  unfold Inv
  rw [e179, e180]
  refine ⟨hr, hT, hN, pr_fr (fun a h1 h2 => c a (by unfold Core; rcases hr.2.1 with z | z <;> omega)) hR, sr_fr (fun a h1 h2 => c a (by unfold Core; omega)) hS, ?_, ?_, ?_, ?_⟩
  · obtain ⟨u1, u2, u3, u4⟩ := hU
    unfold UndoRel
    rw [e21, h26]
    refine ⟨u1, u2, u3, fun k h1 h2 => ?_⟩
    have hb := undoB_rng u3.1 u3.2 u2.1 u2.2 h1 h2
    rw [eu]
    exact ⟨sr_fr (fun a h3 h4 => c a (by unfold Core; omega)) (u4 k h1 h2).1, (u4 k h1 h2).2⟩
  · obtain ⟨s1, s2⟩ := hL
    unfold SlotRel
    rw [e21, e194]
    refine ⟨s1, fun k h1 h2 => ?_⟩
    have s3 := s2 k h1 h2
    rw [eu3]
    exact ⟨s3.1, s3.2.1, fun h3 => ⟨sr_fr (fun a h4 h5 => c a (by unfold Core; omega)) (s3.2.2 h3).1, (s3.2.2 h3).2⟩⟩
  · unfold TextRel
    rw [e2, e3, e181, h4, h12]
    exact hX
  · unfold SearchOk
    rw [e15, e16, e17]
    exact hF
theorem stok_row {r : PF} (hW : WFr r) {k : Int} (h : 0 ≤ k) (h2 : k < 14) : StOk r (24 + 10 * k) := by
  have : k = 0 ∨ k = 1 ∨ k = 2 ∨ k = 3 ∨ k = 4 ∨ k = 5 ∨ k = 6 ∨ k = 7 ∨ k = 8 ∨ k = 9 ∨ k = 10 ∨ k = 11 ∨ k = 12 ∨ k = 13 := by omega
  rcases this with rfl | rfl | rfl | rfl | rfl | rfl | rfl | rfl | rfl | rfl | rfl | rfl | rfl | rfl
  · exact stok_24 hW
  · exact stok_34 hW
  · exact stok_44 hW
  · exact stok_54 hW
  · exact stok_64 hW
  · exact stok_74 hW
  · exact stok_84 hW
  · exact stok_94 hW
  · exact stok_104 hW
  · exact stok_114 hW
  · exact stok_124 hW
  · exact stok_134 hW
  · exact stok_144 hW
  · exact stok_154 hW
/-- what a call begins with -/
def Beg (h r : PF) : Prop := WFr r ∧ 0 < r 1 6 ∧ 160 < r 1 6 ∧ r 1 6 ≤ 171 ∧ kd LY (r 1 6) = (0, 2) ∧ PlOk r (r 1 6) ∧ StOk r 144 ∧ kd LY 144 = (0, 5) ∧ TWf (h 179) ∧ NWf (h 179) (h 180) ∧ PlanRel h (r 1 6) (h 179) ∧ StRel h 144 (h 179) (h 180) ∧ h (r 1 6) 0 = h 179 0 ∧ h (r 1 6) 1 = h 179 1 ∧ h (r 1 6) 3 = h 179 2 ∧ h (r 1 6) 4 = h 179 3 ∧ (1 ≤ h 179 0 ∧ h 179 0 ≤ 4) ∧ (0 ≤ h 179 1 ∧ h 179 1 ≤ 4)
theorem beg_of {h r : PF} (hI : Inv h r) : Beg h r := by
  obtain ⟨⟨hW, hp, _⟩, hT, hN, hR, hS, _⟩ := hI
  have hP : PlOk r (r 1 6) := by
    rcases hp with z | z
    · rw [z.1]; exact plok_164 hW
    · rw [z.1]; exact plok_171 hW
  exact ⟨hW, hP.1.1, by rcases hp with z | z <;> omega, by rcases hp with z | z <;> omega, hP.1.2, hP, stok_144 hW, by decide +kernel, hT, hN, hR, hS, hR.1.1, hR.1.2.1, hR.1.2.2.1, hR.1.2.2.2.1, hT.1, hT.2.1⟩
