/-! A FRESH STATE, ON BOTH SIDES -/
theorem ag_gO {T T' : Int → Int} (he : ∀ k, 0 ≤ k → k < 164 → T' k = T k) {m w : Int} (hm : 0 ≤ m) (hm2 : m < 4) (hw : 0 ≤ w) (hw2 : w < 40) : gO T' m w = gO T m w := he _ (by omega) (by omega)
theorem ag_gS {T T' : Int → Int} (he : ∀ k, 0 ≤ k → k < 164 → T' k = T k) {m t w : Int} (hm : 0 ≤ m) (hm2 : m < 4) (ht : 0 ≤ t) (ht2 : t < 6) (hw : 0 ≤ w) (hw2 : w < 6) : gS T' m t w = gS T m t w := he _ (by omega) (by omega)
theorem dwf_ag {T T' : Int → Int} (he : ∀ k, 0 ≤ k → k < 164 → T' k = T k) (h : DWf T) : DWf T' := by
  refine ⟨by rw [he 0 (by omega) (by omega)]; exact h.1, by rw [he 1 (by omega) (by omega)]; exact h.2.1, by rw [he 2 (by omega) (by omega)]; exact h.2.2.1, by rw [he 3 (by omega) (by omega)]; exact h.2.2.2.1, fun k k1 k2 => by rw [he k k1 k2]; exact h.2.2.2.2.1 k k1 k2, fun m m1 m2 => ?_⟩
  have b := h.2.2.2.2.2 m m1 m2
  rw [he 1 (by omega) (by omega), ag_gO he m1 m2 (by omega) (by omega), ag_gO he m1 m2 (by omega) (by omega), ag_gO he m1 m2 (by omega) (by omega)]
  refine ⟨b.1, b.2.1, fun z w w1 w2 => by rw [ag_gO he m1 m2 w1 w2]; exact b.2.2.1 z w w1 w2, fun t t1 t2 => ⟨by rw [ag_gS he m1 m2 t1 t2 (by omega) (by omega), ag_gS he m1 m2 t1 t2 (by omega) (by omega)]; exact (b.2.2.2 t t1 t2).1, fun l l1 l2 => by rw [ag_gS he m1 m2 t1 t2 (by omega) (by omega)]; exact (b.2.2.2 t t1 t2).2 l l1 l2⟩⟩
theorem dr_ag {h : PF} {p : Int} {T T' : Int → Int} (he : ∀ k, 0 ≤ k → k < 164 → T' k = T k) (hD : DRel h p T) : DRel h p T' := by
  unfold DRel
  rw [he 0 (by omega) (by omega), he 1 (by omega) (by omega), he 2 (by omega) (by omega), he 3 (by omega) (by omega)]
  refine ⟨hD.1, fun m m1 m2 => ?_⟩
  have b := hD.2 m m1 m2
  rw [ag_gO he m1 m2 (by omega) (by omega), ag_gO he m1 m2 (by omega) (by omega), ag_gO he m1 m2 (by omega) (by omega), ag_gO he m1 m2 (by omega) (by omega)]
  refine ⟨b.1, fun t t1 t2 => ⟨by rw [ag_gS he m1 m2 t1 t2 (by omega) (by omega), ag_gS he m1 m2 t1 t2 (by omega) (by omega)]; exact (b.2 t t1 t2).1, fun l l1 l2 => ?_⟩⟩
  unfold gGo
  rw [ag_gS he m1 m2 t1 t2 (by omega) (by omega)]
  exact (b.2 t t1 t2).2 l l1 l2
theorem gFresh_u {T X : Int → Int} {m : Int} : ∀ n : Nat, (∀ k, k < 64 + 11 * m + 5 → upto (gFreshF T m) n X k = X k) ∧ ∀ t : Int, 0 ≤ t → t < n → gOf (upto (gFreshF T m) n X) m (5 + t) = gS T m t 1
  | 0 => ⟨fun k hk => rfl, fun t h1 h2 => absurd h2 (by omega)⟩
  | n + 1 => by
    have ih := gFresh_u (T := T) (X := X) (m := m) n
    have e : upto (gFreshF T m) (n + 1) X = up1 (upto (gFreshF T m) n X) (64 + 11 * m + (5 + (n : Int))) (gS T m n 1) := rfl
    rw [e]
    refine ⟨fun k hk => by rw [up1_k (by omega)]; exact ih.1 k hk, fun t h1 h2 => ?_⟩
    by_cases z : t = n
    · rw [z]; exact up1_s
    · rw [gOf_k (by omega)]; exact ih.2 t h1 (by omega)
theorem gFresh_0 {T N : Int → Int} {m : Int} : gOf (gFresh T N m) m 0 = 0 := by
  unfold gFresh gOf
  rw [(gFresh_u 6).1 _ (by omega)]
  exact up1_s
theorem gFresh_t {T N : Int → Int} {m t : Int} (h : 0 ≤ t) (h2 : t < 6) : gOf (gFresh T N m) m (5 + t) = gS T m t 1 := (gFresh_u 6).2 t h (by omega)
def gBegF (T : Int → Int) (m : Int) (N : Int → Int) : Int → Int := gFresh T (up1 (up1 N (64 + 11 * m + 1) (gO T m 0)) (64 + 11 * m + 2) (gO T m 1)) m
def gBeg (T N : Int → Int) (n : Nat) : Int → Int := upto (gBegF T) n N
/-- as a state begins -/
def BegN (T N : Int → Int) (c : Int) : Prop := (∀ k, 0 ≤ k → k < 195 → (k < 64 ∨ 108 ≤ k) → N k = 0) ∧ (∀ m, c ≤ m → m < 4 → ∀ w, 0 ≤ w → w < 11 → gOf N m w = 0) ∧ ∀ m, 0 ≤ m → m < c → gOf N m 0 = 0 ∧ gOf N m 1 = gO T m 0 ∧ gOf N m 2 = gO T m 1 ∧ gOf N m 3 = 0 ∧ gOf N m 4 = 0 ∧ ∀ t, 0 ≤ t → t < 6 → gOf N m (5 + t) = gS T m t 1
theorem beg_u {T N : Int → Int} (h : ∀ k, 0 ≤ k → k < 195 → N k = 0) : ∀ n : Nat, n ≤ 4 → BegN T (gBeg T N n) n
  | 0, _ => ⟨fun k k1 k2 _ => h k k1 k2, fun m m1 m2 w w1 w2 => h _ (by omega) (by omega), fun m m1 m2 => absurd m2 (by omega)⟩
  | n + 1, hn => by
    obtain ⟨i1, i2, i3⟩ := beg_u (T := T) h n (by omega)
    have e : gBeg T N (n + 1) = gFresh T (up1 (up1 (gBeg T N n) (64 + 11 * (n : Int) + 1) (gO T n 0)) (64 + 11 * (n : Int) + 2) (gO T n 1)) n := rfl
    rw [e]
    generalize gBeg T N n = M at *
    refine ⟨fun k k1 k2 k3 => ?_, fun m m1 m2 w w1 w2 => ?_, fun m m1 m2 => ?_⟩
    · rw [gFresh_o (by omega), up1_k (by omega), up1_k (by omega)]; exact i1 k k1 k2 k3
    · unfold gOf
      rw [gFresh_o (by omega), up1_k (by omega), up1_k (by omega)]; exact i2 m (by omega) m2 w w1 w2
    · by_cases z : m = n
      · rw [z]
        refine ⟨gFresh_0, ?_, ?_, ?_, ?_, fun t t1 t2 => gFresh_t t1 t2⟩
        · unfold gOf; rw [gFresh_o (by omega), up1_k (by omega), up1_s]
        · unfold gOf; rw [gFresh_o (by omega), up1_s]
        · unfold gOf; rw [gFresh_o (by omega), up1_k (by omega), up1_k (by omega)]; exact i2 n (by omega) (by omega) 3 (by omega) (by omega)
        · unfold gOf; rw [gFresh_o (by omega), up1_k (by omega), up1_k (by omega)]; exact i2 n (by omega) (by omega) 4 (by omega) (by omega)
      · have b := i3 m m1 (by omega)
        have ec : ∀ w, 0 ≤ w → w < 11 → gOf (gFresh T (up1 (up1 M (64 + 11 * (n : Int) + 1) (gO T n 0)) (64 + 11 * (n : Int) + 2) (gO T n 1)) n) m w = gOf M m w := fun w w1 w2 => by
          unfold gOf; rw [gFresh_o (by omega), up1_k (by omega), up1_k (by omega)]
        rw [ec 0 (by omega) (by omega), ec 1 (by omega) (by omega), ec 2 (by omega) (by omega), ec 3 (by omega) (by omega), ec 4 (by omega) (by omega)]
        exact ⟨b.1, b.2.1, b.2.2.1, b.2.2.2.1, b.2.2.2.2.1, fun t t1 t2 => by rw [ec (5 + t) (by omega) (by omega)]; exact b.2.2.2.2.2 t t1 t2⟩
theorem gTot_le {N : Int → Int} {c : Int} (hN : ∀ m, 0 ≤ m → m < c → gOf N m 1 ≤ 999) : ∀ n : Nat, (n : Int) ≤ c → upto (fun m a => a + gOf N m 1) n (N 1) ≤ N 1 + 999 * n
  | 0, _ => by show N 1 ≤ _; omega
  | n + 1, hn => by
    have ih := gTot_le hN n (by omega)
    have := hN n (by omega) (by omega)
    show upto (fun m a => a + gOf N m 1) n (N 1) + gOf N n 1 ≤ _
    omega
theorem beg_nwf {T N : Int → Int} (hD : DWf T) (hN : BegN T N (T 1)) : NWf T N := by
  obtain ⟨i1, i2, i3⟩ := hN
  have h1 := hD.2.1
  have n3 := i1 3 (by omega) (by omega) (by omega)
  have n1 := i1 1 (by omega) (by omega) (by omega)
  have n2 := i1 2 (by omega) (by omega) (by omega)
  have n108 := i1 108 (by omega) (by omega) (by omega)
  refine ⟨by omega, fun k k1 k2 => absurd k2 (by omega), by omega, by omega, fun m m1 m2 => ?_, by omega, ?_⟩
  · have b := i3 m m1 m2
    have d := hD.2.2.2.2.2 m m1 (by omega)
    have d2 := d.1 m2
    have d3 := hD.2.2.2.2.1 (4 + 40 * m + 0) (by omega) (by omega)
    have d4 : gO T m 0 = T (4 + 40 * m + 0) := rfl
    refine ⟨by omega, by omega, by omega, fun t t1 t2 => ?_⟩
    have := b.2.2.2.2.2 t t1 t2
    have d5 := hD.2.2.2.2.1 (4 + 40 * m + (4 + 6 * t + 1)) (by omega) (by omega)
    have d6 : gS T m t 1 = T (4 + 40 * m + (4 + 6 * t + 1)) := rfl
    have d7 := (d.2.2.2 t t1 t2).1
    omega
  · have := gTot_le (N := N) (c := T 1) (fun m m1 m2 => by
      have b := i3 m m1 m2
      have d3 := hD.2.2.2.2.1 (4 + 40 * m + 0) (by omega) (by omega)
      have d4 : gO T m 0 = T (4 + 40 * m + 0) := rfl
      omega) (T 1).toNat (by omega)
    omega
/-- a standing that begins -/
def BegS (h : PF) (b : Int) (T : Int → Int) (c : Int) : Prop := (h b 8 = 0 ∧ h b 9 = 0 ∧ h b 10 = 0 ∧ h b 11 = 0 ∧ h b 13 = 0 ∧ h b 14 = 0) ∧ (∀ i, 0 ≤ i → i < 6 → h (b + 8) i = 0) ∧ ∀ m, 0 ≤ m → m < c → (h (b + 1) m = 0 ∧ h (b + 2) m = gO T m 0 ∧ h (b + 3) m = gO T m 1 ∧ h (b + 4) m = 0 ∧ h (b + 5) m = 0) ∧ ∀ t, 0 ≤ t → t < 6 → h (b + 6) (m * 6 + t) = if gS T m t 1 = 0 then -1 else gS T m t 1
theorem beg_st {h : PF} {b : Int} {T N : Int → Int} (hN : BegN T N (T 1)) (hS : BegS h b T (T 1)) : StRel h b T N := by
  obtain ⟨i1, i2, i3⟩ := hN
  obtain ⟨⟨s8, s9, s10, s11, s13, s14⟩, s6, sm⟩ := hS
  have z : ∀ k, 0 ≤ k → k < 195 → (k < 64 ∨ 108 ≤ k) → N k = 0 := i1
  have z3 := z 3 (by omega) (by omega) (by omega)
  have z0 := z 0 (by omega) (by omega) (by omega)
  have z1 := z 1 (by omega) (by omega) (by omega)
  have z2 := z 2 (by omega) (by omega) (by omega)
  have z108 := z 108 (by omega) (by omega) (by omega)
  have z191 := z 191 (by omega) (by omega) (by omega)
  have z189 := z 189 (by omega) (by omega) (by omega)
  refine ⟨⟨by omega, by omega, by omega, by omega, by omega, by omega, by omega, by rw [z191]; exact w32_id (by omega) (by omega), by rw [z189]; exact w32_id (by omega) (by omega)⟩, fun k k1 k2 => absurd k2 (by omega), fun i j1 j2 => by rw [s6 i j1 j2, z _ (by omega) (by omega) (by omega)], fun k i k1 k2 => absurd k2 (by omega), fun m m1 m2 => ?_⟩
  have b := i3 m m1 m2
  have c := sm m m1 m2
  refine ⟨⟨by rw [c.1.1, b.1], by rw [c.1.2.1, b.2.1], by rw [c.1.2.2.1, b.2.2.1], by rw [c.1.2.2.2.1, b.2.2.2.1], by rw [c.1.2.2.2.2, b.2.2.2.2.1]⟩, fun t t1 t2 => ?_⟩
  rw [c.2 t t1 t2, b.2.2.2.2.2 t t1 t2]
theorem C_begins {T : Int → Int} {nx : Nat} {h r : PF} {s : Int → Int} {Q : PO → PY → Nat → PC → Prop} (hW : WFr r) (hD : DWf T) (hT : ∀ k, 0 ≤ k → k < 164 → h 182 k = T k) (K : ∀ h' : PF, (∀ a, a ≠ 178 → a ≠ 179 → a ≠ 180 → a ≠ 194 → h' a = h a) → (∀ k, k ≠ 26 → h' 178 k = h 178 k) → h' 178 26 = 0 → h' 194 0 = 0 → h' 194 1 = 0 → (∀ k, 0 ≤ k → k < 164 → h' 179 k = T k) → BegN (h' 179) (h' 180) (T 1) → Q (Sum.inl none) LY nx (h', r, s)) : Wp 151 0 [some (pR 178), none] [] LY nx (h, r, s) Q := by
  have hT1 := hD.2.1
  simp (disch := first | assumption | omega) only [st_X8_begins_0, st_X8_begins_1, ↓if_pos, ↓if_neg, if_pos, if_neg, ↓reduceIte, true_and, and_true, false_and, and_false, true_or, or_true, false_or, or_false, w32_id, Kv, Kn, fup_s, fup_a, fup_k, fup_fup, Int.reduceAdd, Int.reduceSub, Int.reduceMul, Int.reduceNeg]
  refine loopW (Inv := fun i L H R => L = [some (pR 178), some (pI i)] ∧ R = r ∧ H = frng h 179 0 i (h 182)) (a := 0) (n := 164) (by omega) ?_ ?_ _ _ _ ⟨rfl, rfl, (frng_nil (by omega)).symm⟩
  · rintro i L H R hi hi2 ⟨rfl, rfl, rfl⟩ hK
    have hKK := hK _ _ _ ⟨rfl, rfl, rfl⟩
    rw [← frng_end hi rfl] at hKK
    rw [sh_X8_begins_2]
    simp (disch := first | assumption | omega) only [st_X8_begins_0, st_X8_begins_1, ↓if_pos, ↓if_neg, if_pos, if_neg, ↓reduceIte, true_and, and_true, false_and, and_false, true_or, or_true, false_or, or_false, w32_id, Kv, Kn, fup_s, fup_a, fup_k, fup_fup, Int.reduceAdd, Int.reduceSub, Int.reduceMul, Int.reduceNeg, frng_r]
    exact hKK
  rintro L H R ⟨rfl, rfl, rfl⟩
  rw [sh_X8_begins_2]
  simp (disch := first | assumption | omega) only [st_X8_begins_0, st_X8_begins_1, ↓if_pos, ↓if_neg, if_pos, if_neg, ↓reduceIte, true_and, and_true, false_and, and_false, true_or, or_true, false_or, or_false, w32_id, Kv, Kn, fup_s, fup_a, fup_k, fup_fup, Int.reduceAdd, Int.reduceSub, Int.reduceMul, Int.reduceNeg]
  refine loopW (Inv := fun i L H R2 => L = [some (pR 178), some (pI i)] ∧ R2 = R ∧ H = frng (frng h 179 0 164 (h 182)) 180 0 i (fun _ => 0)) (a := 0) (n := 195) (by omega) ?_ ?_ _ _ _ ⟨rfl, rfl, (frng_nil (by omega)).symm⟩
  · rintro i L H R2 hi hi2 ⟨rfl, rfl, rfl⟩ hK
    have hKK := hK _ _ _ ⟨rfl, rfl, rfl⟩
    rw [← frng_end hi rfl] at hKK
    rw [sh_X8_begins_29]
    simp (disch := first | assumption | omega) only [st_X8_begins_0, st_X8_begins_1, ↓if_pos, ↓if_neg, if_pos, if_neg, ↓reduceIte, true_and, and_true, false_and, and_false, true_or, or_true, false_or, or_false, w32_id, Kv, Kn, fup_s, fup_a, fup_k, fup_fup, Int.reduceAdd, Int.reduceSub, Int.reduceMul, Int.reduceNeg]
    exact hKK
  rintro L H R2 ⟨rfl, rfl, rfl⟩
  rw [sh_X8_begins_29]
  simp (disch := first | assumption | omega) only [st_X8_begins_0, st_X8_begins_1, ↓if_pos, ↓if_neg, if_pos, if_neg, ↓reduceIte, true_and, and_true, false_and, and_false, true_or, or_true, false_or, or_false, w32_id, Kv, Kn, fup_s, fup_a, fup_k, fup_fup, Int.reduceAdd, Int.reduceSub, Int.reduceMul, Int.reduceNeg]
  have eH : ∃ H, H = frng (frng h 179 0 164 (h 182)) 180 0 195 (fun _ => 0) := ⟨_, rfl⟩
  obtain ⟨H, eH⟩ := eH
  rw [← eH]
  have hTe : ∀ k, 0 ≤ k → k < 164 → H 179 k = T k := fun k k1 k2 => by rw [eH, frng_a (by omega), frng_in k1 k2]; exact hT k k1 k2
  have hDH : DWf (H 179) := dwf_ag hTe hD
  have hTH := dwf_twf hDH
  have hH1 : H 179 1 = T 1 := hTe 1 (by omega) (by omega)
  have hN0 : ∀ k, 0 ≤ k → k < 195 → H 180 k = 0 := fun k k1 k2 => by rw [eH, frng_in k1 k2]
  have hfr : ∀ a, a ≠ 179 → a ≠ 180 → H a = h a := fun a a1 a2 => by rw [eH, frng_r a2, frng_r a1]
  clear eH
  refine loopW (Inv := fun i L H' R => L = [some (pR 178), some (pI i)] ∧ R = R2 ∧ H' = frow H 180 (gBeg (H 179) (H 180) i.toNat)) (a := 0) (n := T 1) (by omega) ?_ ?_ _ _ _ ⟨rfl, rfl, frow_self.symm⟩
  · rintro i L H' R hi hi2 ⟨rfl, rfl, rfl⟩ hK
    have hKK := hK _ _ _ ⟨rfl, rfl, rfl⟩
    have e : gBeg (H 179) (H 180) (i + 1).toNat = gFresh (H 179) (up1 (up1 (gBeg (H 179) (H 180) i.toNat) (64 + 11 * i + 1) (gO (H 179) i 0)) (64 + 11 * i + 2) (gO (H 179) i 1)) i := by
      unfold gBeg; rw [upto_s hi]; rfl
    rw [e] at hKK
    generalize gBeg (H 179) (H 180) i.toNat = M at *
    have hi4 : i < 4 := by omega
    rw [sh_X8_begins_51]
    simp (disch := first | assumption | omega | (simp (disch := omega) only [frow_r, frow_s]; first | assumption | omega)) only [st_X8_begins_0, st_X8_begins_1, ↓if_pos, ↓if_neg, if_pos, if_neg, ↓reduceIte, true_and, and_true, false_and, and_false, true_or, or_true, false_or, or_false, w32_id, Kv, Kn, fup_s, fup_a, fup_k, fup_fup, Int.reduceAdd, Int.reduceSub, Int.reduceMul, Int.reduceNeg, frow_r, frow_s, frow_rk, frow_sk, fup_frow, gOf_s, gOf_k, up1_s, up1_k, hH1, S_toldOf, S_sets, S_freshens]
    exact hKK
  · rintro L H' R ⟨rfl, rfl, rfl⟩
    have hb := beg_u (T := H 179) hN0 (T 1).toNat (by omega)
    rw [show (((T 1).toNat : Nat) : Int) = T 1 by omega] at hb
    generalize gBeg (H 179) (H 180) (T 1).toNat = M at *
    have hKK := K (fup (fup (fup (frow H 180 M) 178 26 0) 194 0 0) 194 1 0) (fun a a1 a2 a3 a4 => by rw [fup_r a4, fup_r a4, fup_r a1, frow_r a3]; exact hfr a a2 a3) (fun k k1 => by rw [fup_a (by omega), fup_a (by omega), fup_k k1, frow_rk (by omega), hfr 178 (by omega) (by omega)]) (by rw [fup_a (by omega), fup_a (by omega), fup_s]) (by rw [fup_k (by omega), fup_s]) (by rw [fup_s]) (fun k k1 k2 => by rw [fup_a (by omega), fup_a (by omega), fup_a (by omega), frow_rk (by omega)]; exact hTe k k1 k2) (by rw [fup_r (by omega), fup_r (by omega), fup_r (by omega), fup_r (by omega), fup_r (by omega), fup_r (by omega), frow_s, frow_r (by omega)]; exact hb)
    rw [sh_X8_begins_51]
    simp (disch := first | assumption | omega | (simp (disch := omega) only [frow_r, frow_s]; first | assumption | omega)) only [st_X8_begins_0, st_X8_begins_1, ↓if_pos, ↓if_neg, if_pos, if_neg, ↓reduceIte, true_and, and_true, false_and, and_false, true_or, or_true, false_or, or_false, w32_id, Kv, Kn, fup_s, fup_a, fup_k, fup_fup, Int.reduceAdd, Int.reduceSub, Int.reduceMul, Int.reduceNeg, frow_r, frow_s, frow_rk, frow_sk, fup_frow, gOf_s, gOf_k, up1_s, up1_k, hH1]
    exact hKK
theorem C_beginS {p : Int} {T : Int → Int} {nx : Nat} {h r : PF} {s : Int → Int} {Q : PO → PY → Nat → PC → Prop} (hW : WFr r) (hP : PlOk r p) (hpb : 153 < p) (hD : DWf T) (hR : DRel h p T) (K : ∀ h' : PF, (∀ a, a < 144 ∨ 153 < a → h' a = h a) → BegS h' 144 T (T 1) → Q (Sum.inl none) LY nx (h', r, s)) : Wp 54 0 [some (pR 144), some (pR p), none] [] LY nx (h, r, s) Q := by
  have hT1 := hD.2.1
  have hS0 := stok_144 hW
  obtain ⟨⟨hs0, hsk⟩, ⟨hsr0, hsp0, hsd0⟩, ⟨hsr1, hsp1, hsd1⟩, ⟨hsr2, hsp2, hsd2⟩, ⟨hsr3, hsp3, hsd3⟩, ⟨hsr4, hsp4, hsd4⟩, ⟨hsr5, hsp5, hsd5⟩, ⟨hsr6, hsp6, hsd6⟩, ⟨hsr7, hsp7, hsd7⟩, ⟨hsr12, hsp12, hsd12⟩⟩ := hS0
  have hP00 := hP
  obtain ⟨⟨hp0, hpk⟩, ⟨hpr5, hpp5, hpd5⟩, ⟨hpr6, hpp6, hpd6⟩, ⟨hpr7, hpp7, hpd7⟩, ⟨hpr8, hpp8, hpd8⟩, ⟨hpr9, hpp9, hpd9⟩, ⟨hpr10, hpp10, hpd10⟩⟩ := hP00
  have ep1 := hR.1.2.1
  have k145 : kd LY 145 = (1, 4) := by decide +kernel
  have k146 : kd LY 146 = (1, 4) := by decide +kernel
  have k147 : kd LY 147 = (1, 4) := by decide +kernel
  have k148 : kd LY 148 = (1, 4) := by decide +kernel
  have k149 : kd LY 149 = (1, 4) := by decide +kernel
  have k150 : kd LY 150 = (1, 24) := by decide +kernel
  have k151 : kd LY 151 = (1, 60) := by decide +kernel
  have k152 : kd LY 152 = (1, 6) := by decide +kernel
  have k153 : kd LY 153 = (1, 80) := by decide +kernel
  simp (disch := first | assumption | omega) only [st_X5_begin, ↓if_pos, ↓if_neg, if_pos, if_neg, ↓reduceIte, true_and, and_true, false_and, and_false, true_or, or_true, false_or, or_false, w32_id, Kv, Kn, fup_s, fup_a, fup_k, fup_fup, Int.reduceAdd, Int.reduceSub, Int.reduceMul, Int.reduceNeg, (S_fill (a := 152) (n := 6) (v := 0) (by decide) (by decide +kernel) (by decide))]
  refine loopW (Inv := fun i L H R => L = [some (pR 144), some (pR p), some (pI i)] ∧ R = r ∧ (∀ a, a < 144 ∨ 153 < a → H a = h a) ∧ BegS H 144 T i) (a := 0) (n := T 1) (by omega) ?_ ?_ _ _ _ ⟨rfl, rfl, fun a ha => by rw [frng_r (by omega)]; simp (disch := omega) only [fup_r], ⟨⟨?_, ?_, ?_, ?_, ?_, ?_⟩, fun i i1 i2 => ?_, fun m m1 m2 => absurd m2 (by omega)⟩⟩
  · rintro i L H R hi hi2 ⟨rfl, rfl, hf, ⟨⟨s8, s9, s10, s11, s13, s14⟩, s6, sm⟩⟩ hK
    have hb := hR.2 i hi (by omega)
    have c1 : H (p + 1) i = gO T i 0 := by rw [hf _ (by omega)]; exact (hb.1.1 hi2).1
    have c2 : H (p + 2) i = gO T i 1 := by rw [hf _ (by omega)]; exact (hb.1.1 hi2).2.1
    have ep1H : H p 1 = T 1 := by rw [hf _ (by omega)]; exact ep1
    have c5 : ∀ t, 0 ≤ t → t < 6 → H (p + 5) (i * 6 + t) = if gS T i t 1 = 0 then -1 else gS T i t 1 := fun t t1 t2 => by rw [hf _ (by omega)]; exact ((hb.2 t t1 t2).1).2
    have hi4 : i < 4 := by omega
    rw [sh_X5_begin_40]
    simp (disch := first | assumption | omega) only [st_X5_begin, st_X5_restart, ↓if_pos, ↓if_neg, if_pos, if_neg, ↓reduceIte, true_and, and_true, false_and, and_false, true_or, or_true, false_or, or_false, w32_id, Kv, Kn, fup_s, fup_a, fup_k, fup_fup, Int.reduceAdd, Int.reduceSub, Int.reduceMul, Int.reduceNeg, ep1H, c1, c2]
    refine hK _ _ _ ⟨rfl, rfl, fun a ha => ?_, ⟨⟨?_, ?_, ?_, ?_, ?_, ?_⟩, fun w w1 w2 => ?_, fun m m1 m2 => ⟨⟨?_, ?_, ?_, ?_, ?_⟩, fun t t1 t2 => ?_⟩⟩⟩
    · simp (disch := omega) only [fup_r, fcpy_r]; exact hf a ha
    · simp (disch := omega) only [Int.reduceAdd, fup_a, fcpy_a]; exact s8
    · simp (disch := omega) only [Int.reduceAdd, fup_a, fcpy_a]; exact s9
    · simp (disch := omega) only [Int.reduceAdd, fup_a, fcpy_a]; exact s10
    · simp (disch := omega) only [Int.reduceAdd, fup_a, fcpy_a]; exact s11
    · simp (disch := omega) only [Int.reduceAdd, fup_a, fcpy_a]; exact s13
    · simp (disch := omega) only [Int.reduceAdd, fup_a, fcpy_a]; exact s14
    · simp (disch := omega) only [Int.reduceAdd, fup_a, fcpy_a]; exact s6 w w1 w2
    · by_cases z : m = i
      · rw [z]; simp (disch := omega) only [Int.reduceAdd, fup_a, fcpy_a, fup_s]
      · simp (disch := omega) only [Int.reduceAdd, fup_a, fcpy_a, fup_k]; exact (sm m m1 (by omega)).1.1
    · by_cases z : m = i
      · rw [z]; simp (disch := omega) only [Int.reduceAdd, fup_a, fcpy_a, fup_s]
      · simp (disch := omega) only [Int.reduceAdd, fup_a, fcpy_a, fup_k]; exact (sm m m1 (by omega)).1.2.1
    · by_cases z : m = i
      · rw [z]; simp (disch := omega) only [Int.reduceAdd, fup_a, fcpy_a, fup_s]
      · simp (disch := omega) only [Int.reduceAdd, fup_a, fcpy_a, fup_k]; exact (sm m m1 (by omega)).1.2.2.1
    · by_cases z : m = i
      · rw [z]; simp (disch := omega) only [Int.reduceAdd, fup_a, fcpy_a, fup_s]
      · simp (disch := omega) only [Int.reduceAdd, fup_a, fcpy_a, fup_k]; exact (sm m m1 (by omega)).1.2.2.2.1
    · by_cases z : m = i
      · rw [z]; simp (disch := omega) only [Int.reduceAdd, fup_a, fcpy_a, fup_s]
      · simp (disch := omega) only [Int.reduceAdd, fup_a, fcpy_a, fup_k]; exact (sm m m1 (by omega)).1.2.2.2.2
    · by_cases z : m = i
      · rw [z, ← c5 t t1 t2, fup_a (by omega)]
        show fcpy _ (p + 5) (i * 6) 150 (i * 6) 6 150 (i * 6 + t) = _
        rw [fcpy_in (by omega) (by omega), show i * 6 + (i * 6 + t - i * 6) = i * 6 + t by omega]
        simp (disch := omega) only [fup_a]
      · rw [fup_a (by omega)]
        show fcpy _ (p + 5) (i * 6) 150 (i * 6) 6 150 (m * 6 + t) = _
        rw [fcpy_out (by omega)]
        simp (disch := omega) only [fup_a]
        exact (sm m m1 (by omega)).2 t t1 t2
  · rintro L H R ⟨rfl, rfl, hf, hB⟩
    have ep1H : H p 1 = T 1 := by rw [hf _ (by omega)]; exact ep1
    have hKK := K H hf hB
    rw [sh_X5_begin_40]
    simp (disch := first | assumption | omega) only [st_X5_begin, ↓if_pos, ↓if_neg, if_pos, if_neg, ↓reduceIte, true_and, and_true, false_and, and_false, true_or, or_true, false_or, or_false, w32_id, Kv, Kn, fup_s, fup_a, fup_k, fup_fup, Int.reduceAdd, Int.reduceSub, Int.reduceMul, Int.reduceNeg, ep1H]
    exact hKK
  · simp (disch := omega) only [frng_a, fup_k, fup_s]
  · simp (disch := omega) only [frng_a, fup_k, fup_s]
  · simp (disch := omega) only [frng_a, fup_k, fup_s]
  · simp (disch := omega) only [frng_a, fup_k, fup_s]
  · simp (disch := omega) only [frng_a, fup_k, fup_s]
  · simp (disch := omega) only [frng_a, fup_k, fup_s]
  · exact frng_in i1 i2
