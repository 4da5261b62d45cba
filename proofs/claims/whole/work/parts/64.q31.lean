/-! TAKING BACK, SAVING, LOADING -/
theorem slot_fr {h H : PF} {T : Int → Int} (hL : SlotRel h T) (e2 : H 21 2 = h 21 2) (e194 : H 194 = h 194) (e193 : H 193 = h 193) (hc : ∀ a, 124 ≤ a → a ≤ 143 → H a = h a) : SlotRel H T := by
  obtain ⟨s1, s2⟩ := hL
  unfold SlotRel
  rw [e2, e194]
  refine ⟨s1, fun k h1 h2 => ?_⟩
  have s3 := s2 k h1 h2
  have eu3 : uRow H 193 k = uRow h 193 k := by unfold uRow; rw [e193]
  rw [eu3]
  exact ⟨s3.1, s3.2.1, fun h3 => ⟨sr_fr (fun a h4 h5 => hc a (by omega) (by omega)) (s3.2.2 h3).1, (s3.2.2 h3).2⟩⟩
theorem text_fr {h H : PF} (hX : TextRel h) (e2 : H 2 = h 2) (e3 : H 3 = h 3) (e181 : H 181 = h 181) (h4 : H 178 4 = h 178 4) (h12 : H 178 12 = h 178 12) : TextRel H := by
  unfold TextRel
  rw [e2, e3, e181, h4, h12]
  exact hX
theorem search_fr {h H : PF} (hF : SearchOk h) (e15 : H 15 = h 15) (e16 : H 16 = h 16) (e17 : H 17 = h 17) : SearchOk H := by
  unfold SearchOk
  rw [e15, e16, e17]
  exact hF
def bakE (h : PF) : Int := if 0 < h 21 1 then h 21 1 - 1 else 9
def bakC (h : PF) : PF := cpS (fup (fup h 21 1 (bakE h)) 21 0 (h 21 0 - 1)) 144 (24 + 10 * bakE h)
theorem bakC_r {h : PF} {a : Int} (h1 : a ≠ 21) (h2 : a < 144 ∨ 153 < a) : bakC h a = h a := by
  unfold bakC
  rw [cpS_r (by omega), fup_r h1, fup_r h1]
theorem bakC_0 {h : PF} : bakC h 21 0 = h 21 0 - 1 := by unfold bakC; rw [cpS_r (by omega), fup_s]
theorem bakC_1 {h : PF} : bakC h 21 1 = bakE h := by unfold bakC; rw [cpS_r (by omega), fup_k (by omega), fup_s]
theorem bakC_2 {h : PF} : bakC h 21 2 = h 21 2 := by unfold bakC; rw [cpS_r (by omega), fup_k (by omega), fup_k (by omega)]

theorem C_takeBack {nx : Nat} {h r : PF} {s : Int → Int} {Q : PO → PY → Nat → PC → Prop} (hW : WFr r) (he : 0 ≤ h 21 1 ∧ h 21 1 < 10) (hu : 0 < h 21 0 ∧ h 21 0 ≤ 10) : Wp 14 0 [some (pR 21), some (pR 144)] [] LY nx (h, r, s) Q ↔ Q (Sum.inl (some (pI (h 21 0 - 1)))) LY nx (bakC h, r, s) := by
  have hS144 := stok_144 hW
  have hk144 : kd LY 144 = (0, 5) := by decide +kernel
  unfold bakC bakE
  by_cases hz : 0 < h 21 1
  · have e22 := bef_r hW (x := h 21 1 - 1) (by omega) (by omega)
    have hSe : StOk r (24 + 10 * (h 21 1 - 1)) := stok_row hW (by omega) (by omega)
    have hSk := hSe.1.2
    rw [if_pos hz]
    simp (disch := first | assumption | omega) only [st_X1_takeBack, ↓if_pos, ↓if_neg, if_pos, if_neg, ↓reduceIte, true_and, and_true, false_and, and_false, true_or, or_true, false_or, or_false, w32_id, Kv, Kn, fup_s, fup_a, fup_k, fup_fup, Int.reduceAdd, Int.reduceSub, Int.reduceMul, Int.reduceNeg, S_copyFrom, e22, cpS_r]
  · have e22 := bef_r hW (x := 9) (by omega) (by omega)
    have hSe : StOk r 114 := stok_114 hW
    have hSk := hSe.1.2
    simp only [Int.reduceAdd, Int.reduceMul] at e22
    rw [if_neg hz]
    simp (disch := first | assumption | omega) only [st_X1_takeBack, ↓if_pos, ↓if_neg, if_pos, if_neg, ↓reduceIte, true_and, and_true, false_and, and_false, true_or, or_true, false_or, or_false, w32_id, Kv, Kn, fup_s, fup_a, fup_k, fup_fup, Int.reduceAdd, Int.reduceSub, Int.reduceMul, Int.reduceNeg, S_copyFrom, e22, cpS_r]
theorem bak_eb {h : PF} (he : 0 ≤ h 21 1 ∧ h 21 1 < 10) (hu : 0 < h 178 26 ∧ h 178 26 ≤ 10) : undoB (h 21 1) (h 178 26) (h 178 26 - 1) = 24 + 10 * bakE h := by
  unfold undoB bakE
  split <;> split <;> omega
theorem inv_back {h H r : PF} (hI : Inv h r) (hu : 0 < h 178 26) (hc : ∀ a, (a < 21 ∨ 21 < a) → a < 144 ∨ 153 < a → a ≠ 178 → a ≠ 180 → H a = h a) (h4 : H 178 4 = h 178 4) (h12 : H 178 12 = h 178 12) (h26 : H 178 26 = h 178 26 - 1) (h21 : H 21 = bakC h 21) (hs : ∀ a, 144 ≤ a → a ≤ 153 → H a = bakC h a) (h180 : ∀ i, 0 ≤ i → i < 195 → H 180 i = h 192 (195 * (h 178 26 - 1) + i)) : Inv H r := by
  obtain ⟨hr, hT, hN, hR, hS, ⟨u1, u2, u3, u4⟩, hL, hX, hF⟩ := hI
  have hT1 := hT.2.1
  have e179 : H 179 = h 179 := hc 179 (by omega) (by omega) (by omega) (by omega)
  have e192 : H 192 = h 192 := hc 192 (by omega) (by omega) (by omega) (by omega)
  have u5 := u4 (h 178 26 - 1) (by omega) (by omega)
  have eb := bak_eb u3 ⟨hu, u2.2⟩
  have hbe : 0 ≤ bakE h ∧ bakE h < 10 := by unfold bakE; split <;> omega
  rw [eb] at u5
  have hSb : StRel (bakC h) 144 (h 179) (uRow h 192 (h 178 26 - 1)) := by
    unfold bakC
    exact sr_copy hT1.2 u5.2.1.2 u5.2.2.2.2.1.2 (by omega) (sr_fr (fun a h1 h2 => by rw [fup_r (by omega), fup_r (by omega)]) u5.1)
  have hex : ∀ i, 0 ≤ i → i < 195 → H 180 i = uRow h 192 (h 178 26 - 1) i := h180
  unfold Inv
  rw [e179]
  refine ⟨hr, hT, nwf_ext hT u5.2 hex, pr_fr (fun a h1 h2 => hc a (by rcases hr.2.1 with z | z <;> omega) (by rcases hr.2.1 with z | z <;> omega) (by rcases hr.2.1 with z | z <;> omega) (by rcases hr.2.1 with z | z <;> omega)) hR, sr_ext hT1.2 u5.2.1.2 u5.2.2.2.2.1.2 (sr_fr (fun a h1 h2 => hs a (by omega) (by omega)) hSb) hex, ?_, slot_fr hL (by rw [h21]; exact bakC_2) (hc 194 (by omega) (by omega) (by omega) (by omega)) (hc 193 (by omega) (by omega) (by omega) (by omega)) (fun a h1 h2 => hc a (by omega) (by omega) (by omega) (by omega)), text_fr hX (hc 2 (by omega) (by omega) (by omega) (by omega)) (hc 3 (by omega) (by omega) (by omega) (by omega)) (hc 181 (by omega) (by omega) (by omega) (by omega)) h4 h12, search_fr hF (hc 15 (by omega) (by omega) (by omega) (by omega)) (hc 16 (by omega) (by omega) (by omega) (by omega)) (hc 17 (by omega) (by omega) (by omega) (by omega))⟩
  unfold UndoRel
  rw [h21, bakC_0, bakC_1, h26, u1]
  refine ⟨rfl, by omega, hbe, fun k h1 h2 => ?_⟩
  have u6 := u4 k h1 (by omega)
  have ek : undoB (bakE h) (h 178 26 - 1) k = undoB (h 21 1) (h 178 26) k := by
    unfold undoB bakE
    split <;> split <;> split <;> omega
  have hrg := undoB_rng u3.1 u3.2 u2.1 u2.2 h1 (show k < h 178 26 by omega)
  have eu : uRow H 192 k = uRow h 192 k := by unfold uRow; rw [e192]
  rw [ek, eu]
  exact ⟨sr_fr (fun a h3 h4 => hc a (by omega) (by omega) (by omega) (by omega)) u6.1, u6.2⟩
theorem bits4 : ∀ b : Fin 4, ∀ k : Fin 2, (0 ≤ por ((b.val : Nat) : Int) (pshl 1 ((k.val : Nat) : Int)) ∧ por ((b.val : Nat) : Int) (pshl 1 ((k.val : Nat) : Int)) < 4) ∧ ∀ j : Fin 2, (pand (pshr (por ((b.val : Nat) : Int) (pshl 1 ((k.val : Nat) : Int))) ((j.val : Nat) : Int)) 1 = 1 ↔ j = k ∨ pand (pshr ((b.val : Nat) : Int) ((j.val : Nat) : Int)) 1 = 1) := by decide +kernel
theorem slot_bits {b k : Int} (hb : 0 ≤ b ∧ b < 4) (hk : 0 ≤ k) (hk2 : k < 2) : (0 ≤ por b (pshl 1 k) ∧ por b (pshl 1 k) < 4) ∧ ∀ j, 0 ≤ j → j < 2 → (pand (pshr (por b (pshl 1 k)) j) 1 = 1 ↔ j = k ∨ pand (pshr b j) 1 = 1) := by
  have := bits4 ⟨b.toNat, by omega⟩ ⟨k.toNat, by omega⟩
  simp only [Int.toNat_of_nonneg hb.1, Int.toNat_of_nonneg hk] at this
  refine ⟨this.1, fun j hj hj2 => ?_⟩
  have h2 := this.2 ⟨j.toNat, by omega⟩
  simp only [Int.toNat_of_nonneg hj, Fin.mk.injEq] at h2
  rw [h2, show (j.toNat = k.toNat ↔ j = k) from by omega]
def savC (h : PF) (k : Int) : PF := fup (cpS h (124 + 10 * k) 144) 21 2 (por (h 21 2) (pshl 1 k))
theorem savC_r {h : PF} {a k : Int} (h0 : 0 ≤ k) (h1 : a ≠ 21) (h2 : a < 124 + 10 * k ∨ 124 + 10 * k + 9 < a) : savC h k a = h a := by
  unfold savC
  rw [fup_r h1, cpS_r (by omega)]
theorem savC_2 {h : PF} {k : Int} : savC h k 21 2 = por (h 21 2) (pshl 1 k) := by unfold savC; rw [fup_s]
theorem savC_k {h : PF} {k j : Int} (h0 : 0 ≤ k) (hj : j ≠ 2) : savC h k 21 j = h 21 j := by unfold savC; rw [fup_k hj, cpS_r (by omega)]
theorem fup_self {f : PF} {a k v : Int} : fup f a k v a = up1 (f a) k v := by
  funext k'
  unfold fup up1
  by_cases h : k' = k
  · rw [if_pos ⟨rfl, h⟩, if_pos h]
  · rw [if_neg (fun z => h z.2), if_neg h]
theorem stok_slot {r : PF} (hW : WFr r) {k : Int} (h : 0 ≤ k) (h2 : k < 2) : StOk r (124 + 10 * k) := by
  have := stok_row hW (k := k + 10) (by omega) (by omega)
  rwa [show 24 + 10 * (k + 10) = 124 + 10 * k from by omega] at this
theorem C_save {k : Int} {nx : Nat} {h r : PF} {s : Int → Int} {Q : PO → PY → Nat → PC → Prop} (hW : WFr r) (hk : 0 ≤ k) (hk2 : k < 2) : Wp 16 0 [some (pR 21), some (pI k), some (pR 144), none] [] LY nx (h, r, s) Q ↔ if pand (pshr (h 21 2) k) 1 = 1 then Q (Sum.inl (some (pI 1))) LY nx (savC h k, r, s) else Q (Sum.inl (some (pI 0))) LY nx (savC h k, r, s) := by
  have hS144 := stok_144 hW
  have hk144 : kd LY 144 = (0, 5) := by decide +kernel
  have e23 := slt_r hW hk hk2
  have hSe : StOk r (124 + 10 * k) := stok_slot hW hk hk2
  have hSk := hSe.1.2
  have c0 : cpS h (124 + 10 * k) 144 21 = h 21 := cpS_r (by omega)
  unfold savC
  by_cases hz : pand (pshr (h 21 2) k) 1 = 1
  · rw [if_pos hz]
    simp (disch := first | assumption | omega) only [st_X1_save, st_X1_isSaved, ↓if_pos, ↓if_neg, if_pos, if_neg, ↓reduceIte, true_and, and_true, false_and, and_false, true_or, or_true, false_or, or_false, w32_id, Kv, Kn, fup_s, fup_a, fup_k, fup_fup, Int.reduceAdd, Int.reduceSub, Int.reduceMul, Int.reduceNeg, S_copyFrom, e23, c0]
  · rw [if_neg hz]
    simp (disch := first | assumption | omega) only [st_X1_save, st_X1_isSaved, ↓if_pos, ↓if_neg, if_pos, if_neg, ↓reduceIte, true_and, and_true, false_and, and_false, true_or, or_true, false_or, or_false, w32_id, Kv, Kn, fup_s, fup_a, fup_k, fup_fup, Int.reduceAdd, Int.reduceSub, Int.reduceMul, Int.reduceNeg, S_copyFrom, e23, c0]
def lodC (h : PF) (k : Int) : PF := fup (cpS h 144 (124 + 10 * k)) 21 0 0
theorem lodC_r {h : PF} {a k : Int} (h1 : a ≠ 21) (h2 : a < 144 ∨ 153 < a) : lodC h k a = h a := by
  unfold lodC
  rw [fup_r h1, cpS_r (by omega)]
theorem lodC_0 {h : PF} {k : Int} : lodC h k 21 0 = 0 := by unfold lodC; rw [fup_s]
theorem lodC_k {h : PF} {k j : Int} (hj : j ≠ 0) : lodC h k 21 j = h 21 j := by unfold lodC; rw [fup_k hj, cpS_r (by omega)]
theorem C_load {k : Int} {nx : Nat} {h r : PF} {s : Int → Int} {Q : PO → PY → Nat → PC → Prop} (hW : WFr r) (hk : 0 ≤ k) (hk2 : k < 2) : Wp 17 0 [some (pR 21), some (pI k), some (pR 144)] [] LY nx (h, r, s) Q ↔ Q (Sum.inl none) LY nx (lodC h k, r, s) := by
  have hS144 := stok_144 hW
  have hk144 : kd LY 144 = (0, 5) := by decide +kernel
  have e23 := slt_r hW hk hk2
  have hSe : StOk r (124 + 10 * k) := stok_slot hW hk hk2
  have hSk := hSe.1.2
  unfold lodC
  simp (disch := first | assumption | omega) only [st_X1_load, ↓if_pos, ↓if_neg, if_pos, if_neg, ↓reduceIte, true_and, and_true, false_and, and_false, true_or, or_true, false_or, or_false, w32_id, Kv, Kn, fup_s, fup_a, fup_k, fup_fup, Int.reduceAdd, Int.reduceSub, Int.reduceMul, Int.reduceNeg, S_copyFrom, e23]
theorem inv_save {h H r : PF} {k : Int} (hI : Inv h r) (hk : 0 ≤ k) (hk2 : k < 2) (hc : ∀ a, (a < 21 ∨ 21 < a) → a < 124 ∨ 143 < a → a ≠ 178 → a ≠ 193 → a ≠ 194 → a ≠ 195 → H a = h a) (h4 : H 178 4 = h 178 4) (h12 : H 178 12 = h 178 12) (h26 : H 178 26 = h 178 26) (h21 : H 21 = savC h k 21) (hs : ∀ a, 124 ≤ a → a ≤ 143 → H a = savC h k a) (h194 : H 194 = up1 (h 194) k 1) (h193 : ∀ j, 0 ≤ j → j < 2 → ∀ i, 0 ≤ i → i < 195 → H 193 (195 * j + i) = if j = k then h 180 i else h 193 (195 * j + i)) : Inv H r := by
  obtain ⟨hr, hT, hN, hR, hS, ⟨u1, u2, u3, u4⟩, ⟨s1, s2⟩, hX, hF⟩ := hI
  have hT1 := hT.2.1
  have e179 : H 179 = h 179 := hc 179 (by omega) (by omega) (by omega) (by omega) (by omega) (by omega)
  have e180 : H 180 = h 180 := hc 180 (by omega) (by omega) (by omega) (by omega) (by omega) (by omega)
  have e192 : H 192 = h 192 := hc 192 (by omega) (by omega) (by omega) (by omega) (by omega) (by omega)
  unfold Inv
  rw [e179, e180]
  refine ⟨hr, hT, hN, pr_fr (fun a h1 h2 => hc a (by rcases hr.2.1 with z | z <;> omega) (by rcases hr.2.1 with z | z <;> omega) (by rcases hr.2.1 with z | z <;> omega) (by rcases hr.2.1 with z | z <;> omega) (by rcases hr.2.1 with z | z <;> omega) (by rcases hr.2.1 with z | z <;> omega)) hR, sr_fr (fun a h1 h2 => hc a (by omega) (by omega) (by omega) (by omega) (by omega) (by omega)) hS, ?_, ?_, text_fr hX (hc 2 (by omega) (by omega) (by omega) (by omega) (by omega) (by omega)) (hc 3 (by omega) (by omega) (by omega) (by omega) (by omega) (by omega)) (hc 181 (by omega) (by omega) (by omega) (by omega) (by omega) (by omega)) h4 h12, search_fr hF (hc 15 (by omega) (by omega) (by omega) (by omega) (by omega) (by omega)) (hc 16 (by omega) (by omega) (by omega) (by omega) (by omega) (by omega)) (hc 17 (by omega) (by omega) (by omega) (by omega) (by omega) (by omega))⟩
  · unfold UndoRel
    rw [h21, savC_k hk (by omega), savC_k hk (by omega), h26]
    refine ⟨u1, u2, u3, fun q h1 h2 => ?_⟩
    have hb := undoB_rng u3.1 u3.2 u2.1 u2.2 h1 h2
    have eu : uRow H 192 q = uRow h 192 q := by unfold uRow; rw [e192]
    rw [eu]
    exact ⟨sr_fr (fun a h3 h4 => hc a (by omega) (by omega) (by omega) (by omega) (by omega) (by omega)) (u4 q h1 h2).1, (u4 q h1 h2).2⟩
  · have hbt := slot_bits s1 hk hk2
    unfold SlotRel
    rw [h21, savC_2, h194]
    refine ⟨hbt.1, fun j h1 h2 => ?_⟩
    rw [hbt.2 j h1 h2]
    by_cases hj : j = k
    · have he : ∀ i, 0 ≤ i → i < 195 → uRow H 193 j i = h 180 i := fun i h3 h4 => by
        have := h193 j h1 h2 i h3 h4
        rw [if_pos hj] at this
        exact this
      subst hj
      rw [up1_s]
      refine ⟨Or.inr rfl, ⟨fun _ => rfl, fun _ => Or.inl rfl⟩, fun _ => ⟨sr_ext hT1.2 hN.1.2 hN.2.2.2.1.2 (sr_fr (fun a h3 h4 => ?_) (sr_copy (a := 124 + 10 * j) (b := 144) hT1.2 hN.1.2 hN.2.2.2.1.2 (by omega) hS)) he, nwf_ext hT hN he⟩⟩
      rw [hs a (by omega) (by omega)]
      unfold savC
      rw [fup_r (by omega)]
    · have s3 := s2 j h1 h2
      have he : ∀ i, 0 ≤ i → i < 195 → uRow H 193 j i = uRow h 193 j i := fun i h3 h4 => by
        have := h193 j h1 h2 i h3 h4
        rw [if_neg hj] at this
        exact this
      rw [up1_k hj]
      refine ⟨s3.1, ⟨fun z => ?_, fun z => Or.inr (s3.2.1.mpr z)⟩, fun h3 => ?_⟩
      · rcases z with z | z
        · exact absurd z hj
        · exact s3.2.1.mp z
      · have s5 := s3.2.2 h3
        exact ⟨sr_ext hT1.2 s5.2.1.2 s5.2.2.2.2.1.2 (sr_fr (fun a h4 h5 => by rw [hs a (by omega) (by omega), savC_r hk (by omega) (by omega)]) s5.1) he, nwf_ext hT s5.2 he⟩
theorem inv_load {h H r : PF} {k : Int} (hI : Inv h r) (hk : 0 ≤ k) (hk2 : k < 2) (h1941 : h 194 k = 1) (hc : ∀ a, (a < 21 ∨ 21 < a) → a < 144 ∨ 153 < a → a ≠ 178 → a ≠ 180 → a ≠ 195 → H a = h a) (h4 : H 178 4 = h 178 4) (h12 : H 178 12 = h 178 12) (h26 : H 178 26 = 0) (h21 : H 21 = lodC h k 21) (hs : ∀ a, 144 ≤ a → a ≤ 153 → H a = lodC h k a) (h180 : ∀ i, 0 ≤ i → i < 195 → H 180 i = h 193 (195 * k + i)) : Inv H r := by
  obtain ⟨hr, hT, hN, hR, hS, ⟨u1, u2, u3, u4⟩, hL, hX, hF⟩ := hI
  have hT1 := hT.2.1
  have e179 : H 179 = h 179 := hc 179 (by omega) (by omega) (by omega) (by omega) (by omega)
  have s5 := (hL.2 k hk hk2).2.2 h1941
  have hSb : StRel (lodC h k) 144 (h 179) (uRow h 193 k) := by
    refine sr_fr (fun a h1 h2 => ?_) (sr_copy hT1.2 s5.2.1.2 s5.2.2.2.2.1.2 (by omega) s5.1)
    unfold lodC
    rw [fup_r (by omega)]
  have hex : ∀ i, 0 ≤ i → i < 195 → H 180 i = uRow h 193 k i := h180
  unfold Inv
  rw [e179]
  refine ⟨hr, hT, nwf_ext hT s5.2 hex, pr_fr (fun a h1 h2 => hc a (by rcases hr.2.1 with z | z <;> omega) (by rcases hr.2.1 with z | z <;> omega) (by rcases hr.2.1 with z | z <;> omega) (by rcases hr.2.1 with z | z <;> omega) (by rcases hr.2.1 with z | z <;> omega)) hR, sr_ext hT1.2 s5.2.1.2 s5.2.2.2.2.1.2 (sr_fr (fun a h1 h2 => hs a (by omega) (by omega)) hSb) hex, ?_, slot_fr hL (by rw [h21]; exact lodC_k (by omega)) (hc 194 (by omega) (by omega) (by omega) (by omega) (by omega)) (hc 193 (by omega) (by omega) (by omega) (by omega) (by omega)) (fun a h1 h2 => hc a (by omega) (by omega) (by omega) (by omega) (by omega)), text_fr hX (hc 2 (by omega) (by omega) (by omega) (by omega) (by omega)) (hc 3 (by omega) (by omega) (by omega) (by omega) (by omega)) (hc 181 (by omega) (by omega) (by omega) (by omega) (by omega)) h4 h12, search_fr hF (hc 15 (by omega) (by omega) (by omega) (by omega) (by omega)) (hc 16 (by omega) (by omega) (by omega) (by omega) (by omega)) (hc 17 (by omega) (by omega) (by omega) (by omega) (by omega))⟩
  unfold UndoRel
  rw [h21, lodC_0, lodC_k (by omega), h26]
  exact ⟨rfl, by omega, u3, fun q h1 h2 => absurd h2 (by omega)⟩
theorem Q_31 {i : Int} {l5 l6 : Option PV} {nx : Nat} {h r : PF} {s : Int → Int} {Q : PO → PY → Nat → PC → Prop} (hI : Inv h r) (hi : 0 ≤ i) (hi2 : i + 5 < s (-1)) (hi3 : s (-1) ≤ 4000) (H : ∀ (a b : Option PV) (nx' : Nat) (h' r' : PF), Inv h' r' → nx' ≤ nx + 1 → Wp 257 2079 [some (pR (-1000)), some (pR 1), some (pR 178), some (pR 195), some (pI i), a, b, none] [] LY nx' (h', r', s) Q) : Wp 257 1947 [some (pR (-1000)), some (pR 1), some (pR 178), some (pR 195), some (pI i), l5, l6, none] [] LY nx (h, r, s) Q := by
  obtain ⟨hW, hp0, hp1, hp2, hpk, hP, hS0, hk144, hT, hN, hR, hS, ep0, ep1, ep3, ep4, hT0, hT1⟩ := beg_of hI
  have k153 : kd LY 153 = (1, 80) := by decide +kernel
  have k152 : kd LY 152 = (1, 6) := by decide +kernel
  have k151 : kd LY 151 = (1, 60) := by decide +kernel
  obtain ⟨⟨hs0, hsk⟩, ⟨hsr0, hsp0, hsd0⟩, ⟨hsr1, hsp1, hsd1⟩, ⟨hsr2, hsp2, hsd2⟩, ⟨hsr3, hsp3, hsd3⟩, ⟨hsr4, hsp4, hsd4⟩, ⟨hsr5, hsp5, hsd5⟩, ⟨hsr6, hsp6, hsd6⟩, ⟨hsr7, hsp7, hsd7⟩, ⟨hsr12, hsp12, hsd12⟩⟩ := stok_144 hW
  have he := hI.2.2.2.2.2.1.2.2.1
  have hu0 := hI.2.2.2.2.2.1.1
  have hu1 := hI.2.2.2.2.2.1.2.1
  by_cases hz : h 178 26 = 0
  · have hz2 : h 21 0 = 0 := by omega
    simp (disch := first | assumption | omega | (simp (disch := omega) only [fup_s, fup_k, fup_a, fup_r, frow_s, frow_r, frow_sk, frow_rk, fcpy_r, frng_r]; assumption) | (simp (disch := omega) only [fup_s, fup_k, fup_a, fup_r, frow_s, frow_r, frow_sk, frow_rk, fcpy_r, frng_r]; omega)) only [st_law_31, st_X7_undo, st_X1_takeBack, st_X8_undo, ↓if_pos, ↓if_neg, if_pos, if_neg, ↓reduceIte, true_and, and_true, false_and, and_false, true_or, or_true, false_or, or_false, w32_id, Kv, Kn, fup_s, fup_a, fup_k, fup_fup, Int.reduceAdd, Int.reduceSub, Int.reduceMul, Int.reduceNeg, S_thrown, fup_s, fup_k, fup_a, fup_r, frow_s, frow_r, frow_sk, frow_rk, fcpy_r, frng_r, plcmp_eq, hz, hz2]
    all_goals ((try split) <;> exact H _ _ _ _ _ (inv_same hI ⟨fun a ha => by unfold Core at ha; simp (disch := omega) only [fup_r, frow_r], by simp (disch := omega) only [fup_k, fup_a, frow_rk], by simp (disch := omega) only [fup_k, fup_a, frow_rk], by simp (disch := omega) only [fup_k, fup_a, frow_rk]⟩) (by omega))
  have hu2 : 0 < h 21 0 ∧ h 21 0 ≤ 10 := by omega
  simp (disch := first | assumption | omega | (simp (disch := omega) only [fup_s, fup_k, fup_a, fup_r, frow_s, frow_r, frow_sk, frow_rk, fcpy_r, frng_r]; assumption) | (simp (disch := omega) only [fup_s, fup_k, fup_a, fup_r, frow_s, frow_r, frow_sk, frow_rk, fcpy_r, frng_r]; omega)) only [st_law_31, st_X7_undo, st_X8_undo, ↓if_pos, ↓if_neg, if_pos, if_neg, ↓reduceIte, true_and, and_true, false_and, and_false, true_or, or_true, false_or, or_false, w32_id, Kv, Kn, fup_s, fup_a, fup_k, fup_fup, Int.reduceAdd, Int.reduceSub, Int.reduceMul, Int.reduceNeg, S_thrown, fup_s, fup_k, fup_a, fup_r, frow_s, frow_r, frow_sk, frow_rk, fcpy_r, frng_r, plcmp_eq, C_takeBack hW he hu2, bakC_r, hu0, (S_copies (a := 192) (b := 180) (n1 := 1950) (n2 := 195) (by decide) (by decide +kernel) (by decide) (by decide +kernel))]
  refine H _ _ _ _ _ (inv_back hI (by omega) (fun a g1 g2 g3 g4 => ?_) ?_ ?_ ?_ ?_ (fun a g1 g2 => ?_) (fun q g1 g2 => ?_)) (by omega)
  · simp (disch := omega) only [fup_s, fup_k, fup_a, fup_r, frow_s, frow_r, frow_sk, frow_rk, fcpy_r, frng_r, bakC_r]
  · simp (disch := omega) only [fup_s, fup_k, fup_a, fup_r, frow_s, frow_r, frow_sk, frow_rk, fcpy_r, frng_r, bakC_r]
  · simp (disch := omega) only [fup_s, fup_k, fup_a, fup_r, frow_s, frow_r, frow_sk, frow_rk, fcpy_r, frng_r, bakC_r]
  · simp (disch := omega) only [fup_s, fup_k, fup_a, fup_r, frow_s, frow_r, frow_sk, frow_rk, fcpy_r, frng_r, bakC_r]
  · simp (disch := omega) only [fup_s, fup_k, fup_a, fup_r, frow_s, frow_r, frow_sk, frow_rk, fcpy_r, frng_r]
  · simp (disch := omega) only [fup_s, fup_k, fup_a, fup_r, frow_s, frow_r, frow_sk, frow_rk, fcpy_r, frng_r]
  · rw [fcpy_in (by omega) (by omega)]
    simp (disch := omega) only [fup_s, fup_k, fup_a, fup_r, frow_s, frow_r, frow_sk, frow_rk, fcpy_r, frng_r, bakC_r]
    congr 1
    omega
theorem Q_32 {i : Int} {l5 l6 : Option PV} {nx : Nat} {h r : PF} {s : Int → Int} {Q : PO → PY → Nat → PC → Prop} (hI : Inv h r) (hi : 0 ≤ i) (hi2 : i + 5 < s (-1)) (hi3 : s (-1) ≤ 4000) (H : ∀ (a b : Option PV) (nx' : Nat) (h' r' : PF), Inv h' r' → nx' ≤ nx + 1 → Wp 257 2079 [some (pR (-1000)), some (pR 1), some (pR 178), some (pR 195), some (pI i), a, b, none] [] LY nx' (h', r', s) Q) : Wp 257 1960 [some (pR (-1000)), some (pR 1), some (pR 178), some (pR 195), some (pI i), l5, l6, none] [] LY nx (h, r, s) Q := by
  obtain ⟨hW, hp0, hp1, hp2, hpk, hP, hS0, hk144, hT, hN, hR, hS, ep0, ep1, ep3, ep4, hT0, hT1⟩ := beg_of hI
  have k153 : kd LY 153 = (1, 80) := by decide +kernel
  have k152 : kd LY 152 = (1, 6) := by decide +kernel
  have k151 : kd LY 151 = (1, 60) := by decide +kernel
  obtain ⟨⟨hs0, hsk⟩, ⟨hsr0, hsp0, hsd0⟩, ⟨hsr1, hsp1, hsd1⟩, ⟨hsr2, hsp2, hsd2⟩, ⟨hsr3, hsp3, hsd3⟩, ⟨hsr4, hsp4, hsd4⟩, ⟨hsr5, hsp5, hsd5⟩, ⟨hsr6, hsp6, hsd6⟩, ⟨hsr7, hsp7, hsd7⟩, ⟨hsr12, hsp12, hsd12⟩⟩ := stok_144 hW
  by_cases hm : s (i + 1) < 0 ∨ 2 ≤ s (i + 1)
  · simp (disch := first | assumption | omega | (simp (disch := omega) only [fup_s, fup_k, fup_a, fup_r, frow_s, frow_r, frow_sk, frow_rk, fcpy_r, frng_r]; assumption) | (simp (disch := omega) only [fup_s, fup_k, fup_a, fup_r, frow_s, frow_r, frow_sk, frow_rk, fcpy_r, frng_r]; omega)) only [st_law_32, st_L_saveSnapshot, st_X7_saveSnapshot, st_X8_saveSnapshot, st_X8_noSlot, ↓if_pos, ↓if_neg, if_pos, if_neg, ↓reduceIte, true_and, and_true, false_and, and_false, true_or, or_true, false_or, or_false, w32_id, Kv, Kn, fup_s, fup_a, fup_k, fup_fup, Int.reduceAdd, Int.reduceSub, Int.reduceMul, Int.reduceNeg, S_thrown, fup_s, fup_k, fup_a, fup_r, frow_s, frow_r, frow_sk, frow_rk, fcpy_r, frng_r, plcmp_eq, S_checkSlot, S_no, kh_L_saveSnapshot_1, kx_X7_saveSnapshot]
    all_goals ((try split) <;> exact H _ _ _ _ _ (inv_same hI ⟨fun a ha => by unfold Core at ha; simp (disch := omega) only [fup_r, frow_r], by simp (disch := omega) only [fup_k, fup_a, frow_rk], by simp (disch := omega) only [fup_k, fup_a, frow_rk], by simp (disch := omega) only [fup_k, fup_a, frow_rk]⟩) (by omega))
  have hk : 0 ≤ s (i + 1) := by omega
  have hk2 : s (i + 1) < 2 := by omega
  have hsl := hI.2.2.2.2.2.2.1.2 _ hk hk2
  by_cases hb : h 194 (s (i + 1)) = 1
  · have hp : pand (pshr (h 21 2) (s (i + 1))) 1 = 1 := hsl.2.1.mpr hb
    simp (disch := first | assumption | omega | (simp (disch := omega) only [fup_s, fup_k, fup_a, fup_r, frow_s, frow_r, frow_sk, frow_rk, fcpy_r, frng_r]; assumption) | (simp (disch := omega) only [fup_s, fup_k, fup_a, fup_r, frow_s, frow_r, frow_sk, frow_rk, fcpy_r, frng_r]; omega)) only [st_law_32, st_L_saveSnapshot, st_X7_saveSnapshot, st_X8_saveSnapshot, st_X8_noSlot, ↓if_pos, ↓if_neg, if_pos, if_neg, ↓reduceIte, true_and, and_true, false_and, and_false, true_or, or_true, false_or, or_false, w32_id, Kv, Kn, fup_s, fup_a, fup_k, fup_fup, Int.reduceAdd, Int.reduceSub, Int.reduceMul, Int.reduceNeg, S_thrown, fup_s, fup_k, fup_a, fup_r, frow_s, frow_r, frow_sk, frow_rk, fcpy_r, frng_r, plcmp_eq, S_checkSlot, S_no, C_save, if_pos hp, hb, savC_r, (S_copies (a := 180) (b := 193) (n1 := 195) (n2 := 390) (by decide) (by decide +kernel) (by decide) (by decide +kernel))]
    refine H _ _ _ _ _ (inv_save (k := s (i + 1)) hI hk hk2 (fun a g1 g2 g3 g4 g5 g6 => ?_) ?_ ?_ ?_ ?_ (fun a g1 g2 => ?_) ?_ (fun j g1 g2 q g3 g4 => ?_)) (by omega)
    · simp (disch := omega) only [fup_s, fup_k, fup_a, fup_r, frow_s, frow_r, frow_sk, frow_rk, fcpy_r, frng_r, savC_r]
    · simp (disch := omega) only [fup_s, fup_k, fup_a, fup_r, frow_s, frow_r, frow_sk, frow_rk, fcpy_r, frng_r, savC_r]
    · simp (disch := omega) only [fup_s, fup_k, fup_a, fup_r, frow_s, frow_r, frow_sk, frow_rk, fcpy_r, frng_r, savC_r]
    · simp (disch := omega) only [fup_s, fup_k, fup_a, fup_r, frow_s, frow_r, frow_sk, frow_rk, fcpy_r, frng_r, savC_r]
    · simp (disch := omega) only [fup_s, fup_k, fup_a, fup_r, frow_s, frow_r, frow_sk, frow_rk, fcpy_r, frng_r]
    · simp (disch := omega) only [fup_s, fup_k, fup_a, fup_r, frow_s, frow_r, frow_sk, frow_rk, fcpy_r, frng_r]
    · rw [fup_self]
      simp (disch := omega) only [fup_s, fup_k, fup_a, fup_r, frow_s, frow_r, frow_sk, frow_rk, fcpy_r, frng_r, savC_r]
    · simp (disch := omega) only [fup_s, fup_k, fup_a, fup_r, frow_s, frow_r, frow_sk, frow_rk, fcpy_r, frng_r]
      by_cases hj : j = s (i + 1)
      · rw [if_pos hj, hj, fcpy_in (by omega) (by omega)]
        simp (disch := omega) only [fup_s, fup_k, fup_a, fup_r, frow_s, frow_r, frow_sk, frow_rk, fcpy_r, frng_r, savC_r]
        congr 1
        omega
      · rw [if_neg hj, fcpy_out (by omega)]
        simp (disch := omega) only [fup_s, fup_k, fup_a, fup_r, frow_s, frow_r, frow_sk, frow_rk, fcpy_r, frng_r, savC_r]
  · have hb0 : h 194 (s (i + 1)) = 0 := by omega
    have hp : ¬ pand (pshr (h 21 2) (s (i + 1))) 1 = 1 := fun z => hb (hsl.2.1.mp z)
    simp (disch := first | assumption | omega | (simp (disch := omega) only [fup_s, fup_k, fup_a, fup_r, frow_s, frow_r, frow_sk, frow_rk, fcpy_r, frng_r]; assumption) | (simp (disch := omega) only [fup_s, fup_k, fup_a, fup_r, frow_s, frow_r, frow_sk, frow_rk, fcpy_r, frng_r]; omega)) only [st_law_32, st_L_saveSnapshot, st_X7_saveSnapshot, st_X8_saveSnapshot, st_X8_noSlot, ↓if_pos, ↓if_neg, if_pos, if_neg, ↓reduceIte, true_and, and_true, false_and, and_false, true_or, or_true, false_or, or_false, w32_id, Kv, Kn, fup_s, fup_a, fup_k, fup_fup, Int.reduceAdd, Int.reduceSub, Int.reduceMul, Int.reduceNeg, S_thrown, fup_s, fup_k, fup_a, fup_r, frow_s, frow_r, frow_sk, frow_rk, fcpy_r, frng_r, plcmp_eq, S_checkSlot, S_no, C_save, if_neg hp, hb0, savC_r, (S_copies (a := 180) (b := 193) (n1 := 195) (n2 := 390) (by decide) (by decide +kernel) (by decide) (by decide +kernel))]
    refine H _ _ _ _ _ (inv_save (k := s (i + 1)) hI hk hk2 (fun a g1 g2 g3 g4 g5 g6 => ?_) ?_ ?_ ?_ ?_ (fun a g1 g2 => ?_) ?_ (fun j g1 g2 q g3 g4 => ?_)) (by omega)
    · simp (disch := omega) only [fup_s, fup_k, fup_a, fup_r, frow_s, frow_r, frow_sk, frow_rk, fcpy_r, frng_r, savC_r]
    · simp (disch := omega) only [fup_s, fup_k, fup_a, fup_r, frow_s, frow_r, frow_sk, frow_rk, fcpy_r, frng_r, savC_r]
    · simp (disch := omega) only [fup_s, fup_k, fup_a, fup_r, frow_s, frow_r, frow_sk, frow_rk, fcpy_r, frng_r, savC_r]
    · simp (disch := omega) only [fup_s, fup_k, fup_a, fup_r, frow_s, frow_r, frow_sk, frow_rk, fcpy_r, frng_r, savC_r]
    · simp (disch := omega) only [fup_s, fup_k, fup_a, fup_r, frow_s, frow_r, frow_sk, frow_rk, fcpy_r, frng_r]
    · simp (disch := omega) only [fup_s, fup_k, fup_a, fup_r, frow_s, frow_r, frow_sk, frow_rk, fcpy_r, frng_r]
    · rw [fup_self]
      simp (disch := omega) only [fup_s, fup_k, fup_a, fup_r, frow_s, frow_r, frow_sk, frow_rk, fcpy_r, frng_r, savC_r]
    · simp (disch := omega) only [fup_s, fup_k, fup_a, fup_r, frow_s, frow_r, frow_sk, frow_rk, fcpy_r, frng_r]
      by_cases hj : j = s (i + 1)
      · rw [if_pos hj, hj, fcpy_in (by omega) (by omega)]
        simp (disch := omega) only [fup_s, fup_k, fup_a, fup_r, frow_s, frow_r, frow_sk, frow_rk, fcpy_r, frng_r, savC_r]
        congr 1
        omega
      · rw [if_neg hj, fcpy_out (by omega)]
        simp (disch := omega) only [fup_s, fup_k, fup_a, fup_r, frow_s, frow_r, frow_sk, frow_rk, fcpy_r, frng_r, savC_r]
theorem Q_33 {i : Int} {l5 l6 : Option PV} {nx : Nat} {h r : PF} {s : Int → Int} {Q : PO → PY → Nat → PC → Prop} (hI : Inv h r) (hi : 0 ≤ i) (hi2 : i + 5 < s (-1)) (hi3 : s (-1) ≤ 4000) (H : ∀ (a b : Option PV) (nx' : Nat) (h' r' : PF), Inv h' r' → nx' ≤ nx + 1 → Wp 257 2079 [some (pR (-1000)), some (pR 1), some (pR 178), some (pR 195), some (pI i), a, b, none] [] LY nx' (h', r', s) Q) : Wp 257 2023 [some (pR (-1000)), some (pR 1), some (pR 178), some (pR 195), some (pI i), l5, l6, none] [] LY nx (h, r, s) Q := by
  obtain ⟨hW, hp0, hp1, hp2, hpk, hP, hS0, hk144, hT, hN, hR, hS, ep0, ep1, ep3, ep4, hT0, hT1⟩ := beg_of hI
  have k153 : kd LY 153 = (1, 80) := by decide +kernel
  have k152 : kd LY 152 = (1, 6) := by decide +kernel
  have k151 : kd LY 151 = (1, 60) := by decide +kernel
  obtain ⟨⟨hs0, hsk⟩, ⟨hsr0, hsp0, hsd0⟩, ⟨hsr1, hsp1, hsd1⟩, ⟨hsr2, hsp2, hsd2⟩, ⟨hsr3, hsp3, hsd3⟩, ⟨hsr4, hsp4, hsd4⟩, ⟨hsr5, hsp5, hsd5⟩, ⟨hsr6, hsp6, hsd6⟩, ⟨hsr7, hsp7, hsd7⟩, ⟨hsr12, hsp12, hsd12⟩⟩ := stok_144 hW
  by_cases hm : s (i + 1) < 0 ∨ 2 ≤ s (i + 1)
  · simp (disch := first | assumption | omega | (simp (disch := omega) only [fup_s, fup_k, fup_a, fup_r, frow_s, frow_r, frow_sk, frow_rk, fcpy_r, frng_r]; assumption) | (simp (disch := omega) only [fup_s, fup_k, fup_a, fup_r, frow_s, frow_r, frow_sk, frow_rk, fcpy_r, frng_r]; omega)) only [st_law_33, st_L_restoreSnapshot, st_X7_restoreSnapshot, st_X8_restoreSnapshot, st_X8_noSlot, ↓if_pos, ↓if_neg, if_pos, if_neg, ↓reduceIte, true_and, and_true, false_and, and_false, true_or, or_true, false_or, or_false, w32_id, Kv, Kn, fup_s, fup_a, fup_k, fup_fup, Int.reduceAdd, Int.reduceSub, Int.reduceMul, Int.reduceNeg, S_thrown, fup_s, fup_k, fup_a, fup_r, frow_s, frow_r, frow_sk, frow_rk, fcpy_r, frng_r, plcmp_eq, S_checkSlot, S_no, kh_L_restoreSnapshot_1, kx_X7_restoreSnapshot]
    all_goals ((try split) <;> exact H _ _ _ _ _ (inv_same hI ⟨fun a ha => by unfold Core at ha; simp (disch := omega) only [fup_r, frow_r], by simp (disch := omega) only [fup_k, fup_a, frow_rk], by simp (disch := omega) only [fup_k, fup_a, frow_rk], by simp (disch := omega) only [fup_k, fup_a, frow_rk]⟩) (by omega))
  have hk : 0 ≤ s (i + 1) := by omega
  have hk2 : s (i + 1) < 2 := by omega
  have hsl := hI.2.2.2.2.2.2.1.2 _ hk hk2
  by_cases hb : h 194 (s (i + 1)) = 1
  · have hp : pand (pshr (h 21 2) (s (i + 1))) 1 = 1 := hsl.2.1.mpr hb
    have hl3 := (hsl.2.2 hb).1.1.1
    have el8 : lodC h (s (i + 1)) 144 8 = h (124 + 10 * s (i + 1)) 8 := by
      unfold lodC
      rw [fup_r (by omega), cpS_f (by omega) (by omega)]
    have el9 : uRow h 193 (s (i + 1)) 3 = h 193 (195 * s (i + 1) + 3) := rfl
    have efc : ∀ f : PF, fcpy f 193 (195 * s (i + 1)) 180 0 195 180 3 = f 193 (195 * s (i + 1) + 3) := fun f => by
      rw [fcpy_in (by omega) (by omega)]
      congr 1
    simp (disch := first | assumption | omega | (simp (disch := omega) only [fup_s, fup_k, fup_a, fup_r, frow_s, frow_r, frow_sk, frow_rk, fcpy_r, frng_r]; assumption) | (simp (disch := omega) only [fup_s, fup_k, fup_a, fup_r, frow_s, frow_r, frow_sk, frow_rk, fcpy_r, frng_r]; omega)) only [st_law_33, st_L_restoreSnapshot, st_X7_restoreSnapshot, st_X8_restoreSnapshot, st_X8_noSlot, st_X1_isSaved, ↓if_pos, ↓if_neg, if_pos, if_neg, ↓reduceIte, true_and, and_true, false_and, and_false, true_or, or_true, false_or, or_false, w32_id, Kv, Kn, fup_s, fup_a, fup_k, fup_fup, Int.reduceAdd, Int.reduceSub, Int.reduceMul, Int.reduceNeg, S_thrown, fup_s, fup_k, fup_a, fup_r, frow_s, frow_r, frow_sk, frow_rk, fcpy_r, frng_r, plcmp_eq, S_checkSlot, S_no, S_checkPossible, S_throwsIf, C_load, if_pos hp, hb, lodC_r, el8, hl3, el9, efc, (S_copies (a := 193) (b := 180) (n1 := 390) (n2 := 195) (by decide) (by decide +kernel) (by decide) (by decide +kernel)), kh_L_restoreSnapshot_2, kx_X7_restoreSnapshot]
    refine H _ _ _ _ _ (inv_load (k := s (i + 1)) hI hk hk2 hb (fun a g1 g2 g3 g4 g5 => ?_) ?_ ?_ ?_ ?_ (fun a g1 g2 => ?_) (fun q g1 g2 => ?_)) (by omega)
    · simp (disch := omega) only [fup_s, fup_k, fup_a, fup_r, frow_s, frow_r, frow_sk, frow_rk, fcpy_r, frng_r, lodC_r]
    · simp (disch := omega) only [fup_s, fup_k, fup_a, fup_r, frow_s, frow_r, frow_sk, frow_rk, fcpy_r, frng_r, lodC_r]
    · simp (disch := omega) only [fup_s, fup_k, fup_a, fup_r, frow_s, frow_r, frow_sk, frow_rk, fcpy_r, frng_r, lodC_r]
    · simp (disch := omega) only [fup_s, fup_k, fup_a, fup_r, frow_s, frow_r, frow_sk, frow_rk, fcpy_r, frng_r, lodC_r]
    · simp (disch := omega) only [fup_s, fup_k, fup_a, fup_r, frow_s, frow_r, frow_sk, frow_rk, fcpy_r, frng_r]
    · simp (disch := omega) only [fup_s, fup_k, fup_a, fup_r, frow_s, frow_r, frow_sk, frow_rk, fcpy_r, frng_r]
    · rw [fup_a (by omega), fcpy_in (by omega) (by omega)]
      simp (disch := omega) only [fup_s, fup_k, fup_a, fup_r, frow_s, frow_r, frow_sk, frow_rk, fcpy_r, frng_r, lodC_r]
      congr 1
      omega
  · have hb0 : h 194 (s (i + 1)) = 0 := by omega
    have hp : ¬ pand (pshr (h 21 2) (s (i + 1))) 1 = 1 := fun z => hb (hsl.2.1.mp z)
    simp (disch := first | assumption | omega | (simp (disch := omega) only [fup_s, fup_k, fup_a, fup_r, frow_s, frow_r, frow_sk, frow_rk, fcpy_r, frng_r]; assumption) | (simp (disch := omega) only [fup_s, fup_k, fup_a, fup_r, frow_s, frow_r, frow_sk, frow_rk, fcpy_r, frng_r]; omega)) only [st_law_33, st_L_restoreSnapshot, st_X7_restoreSnapshot, st_X8_restoreSnapshot, st_X8_noSlot, st_X1_isSaved, ↓if_pos, ↓if_neg, if_pos, if_neg, ↓reduceIte, true_and, and_true, false_and, and_false, true_or, or_true, false_or, or_false, w32_id, Kv, Kn, fup_s, fup_a, fup_k, fup_fup, Int.reduceAdd, Int.reduceSub, Int.reduceMul, Int.reduceNeg, S_thrown, fup_s, fup_k, fup_a, fup_r, frow_s, frow_r, frow_sk, frow_rk, fcpy_r, frng_r, plcmp_eq, S_checkSlot, S_no, S_checkPossible, S_throwsIf, if_neg hp, hb0, kh_L_restoreSnapshot_2, kx_X7_restoreSnapshot]
    all_goals ((try split) <;> exact H _ _ _ _ _ (inv_same hI ⟨fun a ha => by unfold Core at ha; simp (disch := omega) only [fup_r, frow_r], by simp (disch := omega) only [fup_k, fup_a, frow_rk], by simp (disch := omega) only [fup_k, fup_a, frow_rk], by simp (disch := omega) only [fup_k, fup_a, frow_rk]⟩) (by omega))
