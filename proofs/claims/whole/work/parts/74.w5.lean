/-! WORDS: how many, the reference: forward sums against backward ones -/
def cd (t : Int) : Int := t % 6 + 7 * (t / 6 % 6) + 49 * (t / 36 % 6) + 343 * (t / 216 % 6)
theorem dig7 {x0 x1 x2 x3 : Int} (h0 : 0 ≤ x0 ∧ x0 < 6) (h1 : 0 ≤ x1 ∧ x1 < 6) (h2 : 0 ≤ x2 ∧ x2 < 6) (h3 : 0 ≤ x3 ∧ x3 < 6) : (x0 + 7 * x1 + 49 * x2 + 343 * x3) % 7 = x0 ∧ (x0 + 7 * x1 + 49 * x2 + 343 * x3) / 7 % 7 = x1 ∧ (x0 + 7 * x1 + 49 * x2 + 343 * x3) / 49 % 7 = x2 ∧ (x0 + 7 * x1 + 49 * x2 + 343 * x3) / 343 % 7 = x3 := by
  refine ⟨?_, ?_, ?_, ?_⟩ <;> omega
theorem ps_cd {t : Int} (h : 0 ≤ t) (h2 : t < 1296) : ps (cd t) = t := by
  have k := dig7 (x0 := t % 6) (x1 := t / 6 % 6) (x2 := t / 36 % 6) (x3 := t / 216 % 6) (by omega) (by omega) (by omega) (by omega)
  unfold ps cd
  rw [k.1, k.2.1, k.2.2.1, k.2.2.2]
  clear k
  have a1 : t / 36 = t / 6 / 6 := by omega
  have a2 : t / 216 = t / 6 / 6 / 6 := by omega
  rw [a1, a2]
  omega
theorem cd_rng {t : Int} : 0 ≤ cd t ∧ cd t < 2401 := by
  unfold cd
  omega
theorem cd_ps {c : Int} (h : D6 c) (h0 : 0 ≤ c ∧ c < 2401) : cd (ps c) = c := by
  have h1 : 0 ≤ c % 7 ∧ c % 7 < 6 ∧ 0 ≤ c / 7 % 7 ∧ c / 7 % 7 < 6 ∧ 0 ≤ c / 49 % 7 ∧ c / 49 % 7 < 6 ∧ 0 ≤ c / 343 % 7 ∧ c / 343 % 7 < 6 := by
    unfold D6 at h
    simp only [pw7_0, pw7_1, pw7_2, pw7_3, pw7_4, pw6_0, pw6_1, pw6_2, pw6_3, pw6_4, r7_0, r7_1, r7_2, r7_3, r7_4, d7, Int.reduceAdd, Int.reduceSub, Int.reduceMul, pw6_0, pw6_1, pw6_2, pw6_3, pw6_4, r6_0, r6_1, r6_2, r6_3, r6_4] at h
    omega
  have k := dig6 (x0 := c % 7) (x1 := c / 7 % 7) (x2 := c / 49 % 7) (x3 := c / 343 % 7) (by omega) (by omega) (by omega) (by omega)
  unfold cd ps
  rw [k.1, k.2.1, k.2.2.1, k.2.2.2]
  clear k h1
  have a1 : c / 49 = c / 7 / 7 := by omega
  have a2 : c / 343 = c / 7 / 7 / 7 := by omega
  rw [a1, a2]
  omega
theorem cd_0 : cd 0 = 0 := by decide
/-- a weighted sum over a row -/
def sgF (E W : Int → Int) (t a : Int) : Int := a + E t * W t
def sgw (E W : Int → Int) (n : Nat) : Int := upto (sgF E W) n 0
theorem sgw_s {E W : Int → Int} {n : Nat} : sgw E W (n + 1) = sgw E W n + E n * W n := rfl
theorem sgw_cg {E E' W W' : Int → Int} : ∀ n : Nat, (∀ t : Int, 0 ≤ t → t < n → E t = E' t ∧ W t = W' t) → sgw E W n = sgw E' W' n
  | 0, _ => rfl
  | n + 1, h => by
    have h1 := h n (by omega) (by omega)
    rw [sgw_s, sgw_s, sgw_cg n (fun t a b => h t a (by omega)), h1.1, h1.2]
theorem sgw_0 {W : Int → Int} : ∀ n : Nat, sgw (fun _ => 0) W n = 0
  | 0 => rfl
  | n + 1 => by rw [sgw_s, sgw_0 n, Int.zero_mul]; rfl
theorem sgw_up {E W : Int → Int} {to a : Int} (h0 : 0 ≤ to) : ∀ n : Nat, sgw (up1 E to (E to + a)) W n = sgw E W n + if to < n then a * W to else 0
  | 0 => by rw [if_neg (by omega)]; rfl
  | n + 1 => by
    rw [sgw_s, sgw_s, sgw_up h0 n]
    by_cases h : to = n
    · rw [← h, up1_s, if_neg (by omega), if_pos (by omega), Int.add_mul]
      omega
    · rw [up1_k (fun z => h z.symm)]
      by_cases h2 : to < n
      · rw [if_pos h2, if_pos (by omega)]
        omega
      · rw [if_neg h2, if_neg (by omega)]
        omega
theorem sgw_nn {E W : Int → Int} : ∀ n : Nat, (∀ t : Int, 0 ≤ t → t < n → 0 ≤ E t * W t) → 0 ≤ sgw E W n ∧ ∀ t : Nat, t < n → E t * W t ≤ sgw E W n ∧ sgw E W t ≤ sgw E W n
  | 0, _ => ⟨Int.le_refl _, fun t h => absurd h (by omega)⟩
  | n + 1, h => by
    have ih := sgw_nn (E := E) (W := W) n (fun t a b => h t a (by omega))
    have h1 := h n (by omega) (by omega)
    rw [sgw_s]
    generalize hP : E n * W n = P at *
    refine ⟨by omega, fun t ht => ?_⟩
    by_cases e : t = n
    · subst e
      rw [hP]
      omega
    · have := ih.2 t (by omega)
      omega
def one1 : Int → Int := fun _ => 1
/-- a row of ways after k letters, with j letters still to come -/
def DOk (T : Int → Int) (set V : Int) (k j : Nat) (D : Int → Int) : Prop := (∀ t, 0 ≤ t → t < 1296 → 0 ≤ D t ∧ (0 < D t → VC T set 0 (cd t))) ∧ sgw D one1 1296 ≤ p4 k ∧ sgw D (fun t => Wf T set j (cd t)) 1296 = V
theorem one_nn {E : Int → Int} {n : Nat} (h : ∀ t : Int, 0 ≤ t → t < n → 0 ≤ E t) : ∀ t : Int, 0 ≤ t → t < n → 0 ≤ E t * one1 t := fun t a b => by
  unfold one1
  rw [Int.mul_one]
  exact h t a b
theorem S_together2 {set t l : Int} {nx : Nat} {h r : PF} {s : Int → Int} {Q : PO → PY → Nat → PC → Prop} (hW : WFr r) (hT : TWf (h 179)) (ht : 0 ≤ t) (ht2 : t < 1296) (hV : VC (h 179) set 0 (cd t)) (hl : 0 ≤ l) (hl2 : l < 4) : Wp 200 0 [some (pR 178), some (pI set), some (pI t), some (pI l), none, none, none, none] [] LY nx (h, r, s) Q ↔ Q (Sum.inl (some (pI (if gSt (h 179) set 0 (cd t) l = -1 then -1 else ps (gSt (h 179) set 0 (cd t) l))))) LY nx (h, r, s) := by
  have := S_together (nx := nx) (h := h) (r := r) (s := s) (Q := Q) hW hT hV hl hl2
  rwa [ps_cd ht ht2] at this
theorem S_areEnds2 {set t : Int} {nx : Nat} {h r : PF} {s : Int → Int} {Q : PO → PY → Nat → PC → Prop} (hW : WFr r) (hT : TWf (h 179)) (ht : 0 ≤ t) (ht2 : t < 1296) (hV : VC (h 179) set 0 (cd t)) (hs : 0 ≤ set) (hs2 : set < pshl 1 (h 179 1)) : Wp 201 0 [some (pR 178), some (pI set), some (pI t), none, none] [] LY nx (h, r, s) Q ↔ Q (Sum.inl (some (pI (gFd (h 179) set 0 (cd t))))) LY nx (h, r, s) := by
  have := S_areEnds (nx := nx) (h := h) (r := r) (s := s) (Q := Q) hW hT hV hs hs2
  rwa [ps_cd ht ht2] at this
theorem C_goesOn {set V : Int} {k j : Nat} {nx : Nat} {h r : PF} {s : Int → Int} {Q : PO → PY → Nat → PC → Prop} (hW : WFr r) (hT : TWf (h 179)) (hk : k ≤ 19) (hD : DOk (h 179) set V k (j + 1) (h 186)) (K : ∀ h' : PF, (∀ a, a < 186 ∨ 187 < a → h' a = h a) → DOk (h 179) set V (k + 1) j (h' 186) → Q (Sum.inl none) LY nx (h', r, s)) : Wp 204 0 [some (pR 178), some (pI set), none, none, none] [] LY nx (h, r, s) Q := by
  have hT0 := hT.1
  obtain ⟨d1, d2, d3⟩ := hD
  have hp := p4_le (j := k + 1) (by omega)
  have hp4 : p4 (k + 1) = 4 * p4 k := rfl
  have hnn := sgw_nn (E := h 186) (W := one1) 1296 (one_nn (fun t a b => (d1 t a (by omega)).1))
  simp (disch := first | assumption | omega) only [st_X8_goesOn_0, st_X8_goesOn_1, ↓if_pos, ↓if_neg, if_pos, if_neg, ↓reduceIte, true_and, and_true, false_and, and_false, true_or, or_true, false_or, or_false, w32_id, Kv, Kn, fup_s, fup_a, fup_k, fup_fup, Int.reduceAdd, Int.reduceSub, Int.reduceMul, Int.reduceNeg]
  refine (loopR (Lf := fun i => [some (pR 178), some (pI set), some (pI i), none, none]) (Hf := fun i => frng h 187 0 i (fun _ => 0)) (a := 0) (n := 1296) (by omega) (by rfl) (frng_nil (by omega)).symm ?_).mpr ?_
  · intro i hi hi2
    refine Iff.trans sh_X8_goesOn_2 ?_
    simp (disch := first | assumption | omega) only [st_X8_goesOn_0, st_X8_goesOn_1, ↓if_pos, ↓if_neg, if_pos, if_neg, ↓reduceIte, true_and, and_true, false_and, and_false, true_or, or_true, false_or, or_false, w32_id, Kv, Kn, fup_s, fup_a, fup_k, fup_fup, Int.reduceAdd, Int.reduceSub, Int.reduceMul, Int.reduceNeg]
    rw [frng_end (by omega) rfl]
  · refine sh_X8_goesOn_2.mpr ?_
    simp (disch := first | assumption | omega) only [st_X8_goesOn_0, st_X8_goesOn_1, ↓if_pos, ↓if_neg, if_pos, if_neg, ↓reduceIte, true_and, and_true, false_and, and_false, true_or, or_true, false_or, or_false, w32_id, Kv, Kn, fup_s, fup_a, fup_k, fup_fup, Int.reduceAdd, Int.reduceSub, Int.reduceMul, Int.reduceNeg]
    have z187 : ∀ t : Int, 0 ≤ t → t < 1296 → frng h 187 0 1296 (fun _ => 0) 187 t = 0 := fun t a b => by
      unfold frng
      rw [if_pos ⟨rfl, a, b⟩]
    have zsum : ∀ W : Int → Int, sgw (frng h 187 0 1296 (fun _ => 0) 187) W 1296 = 0 := fun W => by
      rw [sgw_cg (E' := fun _ => 0) (W' := W) 1296 (fun t a b => ⟨z187 t a (by omega), rfl⟩)]
      exact sgw_0 1296
    refine loopW (Inv := fun t L H R => ∃ (x3 x4 : Option PV), L = [some (pR 178), some (pI set), some (pI t), x3, x4] ∧ R = r ∧ (∀ a, a ≠ 187 → H a = h a) ∧ (∀ q, 0 ≤ q → q < 1296 → 0 ≤ H 187 q ∧ (0 < H 187 q → VC (h 179) set 0 (cd q))) ∧ sgw (H 187) one1 1296 ≤ 4 * sgw (h 186) one1 t.toNat ∧ sgw (H 187) (fun t => Wf (h 179) set j (cd t)) 1296 = sgw (h 186) (fun t => Wf (h 179) set (j + 1) (cd t)) t.toNat) (a := 0) (n := 1296) (by omega) ?_ ?_ _ _ _ ⟨none, none, rfl, rfl, fun a ha => frng_r ha, fun q a b => by rw [z187 q a b]; exact ⟨Int.le_refl _, fun z => absurd z (by omega)⟩, by rw [zsum]; exact Int.le_refl _, zsum _⟩
    · rintro t L H R ht ht2 ⟨x3, x4, rfl, rfl, hf, hE, hS1, hSw⟩ hK
      have ett : ((t.toNat : Nat) : Int) = t := by omega
      have e179 : H 179 = h 179 := hf 179 (by omega)
      have e186 : H 186 = h 186 := hf 186 (by omega)
      have d1t := d1 t ht ht2
      have es1 : sgw (h 186) one1 (t + 1).toNat = sgw (h 186) one1 t.toNat + h 186 t := by
        rw [show (t + 1).toNat = t.toNat + 1 from by omega, sgw_s, ett]
        unfold one1
        rw [Int.mul_one]
      have esw : sgw (h 186) (fun t => Wf (h 179) set (j + 1) (cd t)) (t + 1).toNat = sgw (h 186) (fun t => Wf (h 179) set (j + 1) (cd t)) t.toNat + h 186 t * Wf (h 179) set (j + 1) (cd t) := by
        rw [show (t + 1).toNat = t.toNat + 1 from by omega, sgw_s, ett]
      have hle : sgw (h 186) one1 (t + 1).toNat ≤ p4 k := by
        by_cases he : t = 1295
        · rw [he]; exact d2
        · exact Int.le_trans (hnn.2 (t + 1).toNat (by omega)).2 d2
      rw [sh_X8_goesOn_24]
      simp (disch := first | assumption | omega) only [st_X8_goesOn_0, st_X8_goesOn_1, ↓if_pos, ↓if_neg, if_pos, if_neg, ↓reduceIte, true_and, and_true, false_and, and_false, true_or, or_true, false_or, or_false, w32_id, Kv, Kn, fup_s, fup_a, fup_k, fup_fup, Int.reduceAdd, Int.reduceSub, Int.reduceMul, Int.reduceNeg]
      by_cases hz : h 186 t = 0
      · have hKK := hK _ H _ ⟨some (pI 0), x4, rfl, rfl, hf, hE, by rw [es1, hz]; omega, by rw [esw, hz, Int.zero_mul, Int.add_zero]; exact hSw⟩
        rw [sh_X8_goesOn_33]
        simp (disch := first | assumption | omega) only [st_X8_goesOn_0, st_X8_goesOn_1, ↓if_pos, ↓if_neg, if_pos, if_neg, ↓reduceIte, true_and, and_true, false_and, and_false, true_or, or_true, false_or, or_false, w32_id, Kv, Kn, fup_s, fup_a, fup_k, fup_fup, Int.reduceAdd, Int.reduceSub, Int.reduceMul, Int.reduceNeg, e179, e186, hz, plcmp_eq]
        exact hKK
      · have hpos : 0 < h 186 t := by omega
        have hvc := d1t.2 hpos
        refine loopW (Inv := fun l L H2 R2 => ∃ (x4 : Option PV), L = [some (pR 178), some (pI set), some (pI t), some (pI l), x4] ∧ R2 = R ∧ (∀ a, a ≠ 187 → H2 a = h a) ∧ (∀ q, 0 ≤ q → q < 1296 → 0 ≤ H2 187 q ∧ (0 < H2 187 q → VC (h 179) set 0 (cd q))) ∧ sgw (H2 187) one1 1296 ≤ 4 * sgw (h 186) one1 t.toNat + l * h 186 t ∧ sgw (H2 187) (fun t => Wf (h 179) set j (cd t)) 1296 = sgw (h 186) (fun t => Wf (h 179) set (j + 1) (cd t)) t.toNat + h 186 t * upto (wfF (h 179) set (cd t) (Wf (h 179) set j)) l.toNat 0) (a := 0) (n := h 179 0) (by omega) ?_ ?_ _ _ _ ⟨x4, rfl, rfl, hf, hE, by rw [Int.zero_mul, Int.add_zero]; exact hS1, by show _ = _ + h 186 t * 0; rw [Int.mul_zero, Int.add_zero]; exact hSw⟩
        · rintro l L H2 R2 hl hl2 ⟨x4, rfl, rfl, hf2, hE2, hS12, hSw2⟩ hK2
          have e1792 : H2 179 = h 179 := hf2 179 (by omega)
          have e1862 : H2 186 = h 186 := hf2 186 (by omega)
          have hTH : TWf (H2 179) := by rw [e1792]; exact hT
          have hvcH : VC (H2 179) set 0 (cd t) := by rw [e1792]; exact hvc
          have hl4 : l < 4 := by omega
          have eW : upto (wfF (h 179) set (cd t) (Wf (h 179) set j)) (l + 1).toNat 0 = upto (wfF (h 179) set (cd t) (Wf (h 179) set j)) l.toNat 0 + if gSt (h 179) set 0 (cd t) l = -1 then 0 else Wf (h 179) set j (gSt (h 179) set 0 (cd t) l) := upto_s hl
          have elm : (l + 1) * h 186 t = l * h 186 t + h 186 t := by rw [Int.add_mul, Int.one_mul]
          have hlm : (l + 1) * h 186 t ≤ 4 * h 186 t := Int.mul_le_mul_of_nonneg_right (by omega) (by omega)
          have hnn2 := sgw_nn (E := H2 187) (W := one1) 1296 (one_nn (fun t a b => (hE2 t a (by omega)).1))
          rw [sh_X8_goesOn_33]
          by_cases hst : gSt (h 179) set 0 (cd t) l = -1
          · rw [if_pos hst, Int.add_zero] at eW
            have hKK := hK2 _ H2 _ ⟨some (pI (-1)), rfl, rfl, hf2, hE2, by rw [elm]; omega, by rw [eW]; exact hSw2⟩
            simp (disch := first | assumption | omega) only [st_X8_goesOn_0, st_X8_goesOn_1, ↓if_pos, ↓if_neg, if_pos, if_neg, ↓reduceIte, true_and, and_true, false_and, and_false, true_or, or_true, false_or, or_false, w32_id, Kv, Kn, fup_s, fup_a, fup_k, fup_fup, Int.reduceAdd, Int.reduceSub, Int.reduceMul, Int.reduceNeg, e1792, e1862, plcmp_gt, S_together2, if_pos hst]
            exact hKK
          · rw [if_neg hst] at eW
            have hvs : VC (h 179) set 0 (gSt (h 179) set 0 (cd t) l) := vc_st hT hl (by omega) hst
            have hd6 := vc_d6 hT hvs
            have hpr := ps_rng hd6
            have hcp := cd_ps hd6 hvs.1
            have hEq := hE2 _ hpr.1 hpr.2
            have htn : ((ps (gSt (h 179) set 0 (cd t) l)).toNat : Int) = ps (gSt (h 179) set 0 (cd t) l) := by omega
            have hge := (hnn2.2 (ps (gSt (h 179) set 0 (cd t) l)).toNat (by omega)).1
            rw [htn] at hge
            unfold one1 at hge
            rw [Int.mul_one] at hge
            have hS1' : sgw (fun t => H2 187 t) (fun _ => 1) 1296 = sgw (H2 187) one1 1296 := rfl
            have h64 : w64 (H2 187 (ps (gSt (h 179) set 0 (cd t) l)) + h 186 t) = H2 187 (ps (gSt (h 179) set 0 (cd t) l)) + h 186 t := w64_id (by omega) (by
              have : H2 187 (ps (gSt (h 179) set 0 (cd t) l)) ≤ sgw (H2 187) one1 1296 := hge
              omega)
            have u1 := sgw_up (E := H2 187) (W := one1) (to := ps (gSt (h 179) set 0 (cd t) l)) (a := h 186 t) hpr.1 1296
            have u2 := sgw_up (E := H2 187) (W := fun t => Wf (h 179) set j (cd t)) (to := ps (gSt (h 179) set 0 (cd t) l)) (a := h 186 t) hpr.1 1296
            rw [if_pos (by omega)] at u1 u2
            (try dsimp only at u2)
            rw [hcp] at u2
            have u1' : sgw (up1 (H2 187) (ps (gSt (h 179) set 0 (cd t) l)) (H2 187 (ps (gSt (h 179) set 0 (cd t) l)) + h 186 t)) one1 1296 = sgw (H2 187) one1 1296 + h 186 t := by
              rw [u1]
              unfold one1
              rw [Int.mul_one]
            have hKK := hK2 _ (fup H2 187 (ps (gSt (h 179) set 0 (cd t) l)) (H2 187 (ps (gSt (h 179) set 0 (cd t) l)) + h 186 t)) _ ⟨some (pI (ps (gSt (h 179) set 0 (cd t) l))), rfl, rfl, fun a ha => by rw [fup_r ha]; exact hf2 a ha, fun q a b => by
              rw [fup_self]
              by_cases hq : q = ps (gSt (h 179) set 0 (cd t) l)
              · rw [hq, up1_s]
                exact ⟨by omega, fun _ => by rw [hcp]; exact hvs⟩
              · rw [up1_k hq]; exact hE2 q a b, by rw [fup_self, u1', elm]; omega, by rw [fup_self, u2, eW, Int.mul_add, hSw2]; omega⟩
            simp (disch := first | assumption | omega) only [st_X8_goesOn_0, st_X8_goesOn_1, ↓if_pos, ↓if_neg, if_pos, if_neg, ↓reduceIte, true_and, and_true, false_and, and_false, true_or, or_true, false_or, or_false, w32_id, Kv, Kn, fup_s, fup_a, fup_k, fup_fup, Int.reduceAdd, Int.reduceSub, Int.reduceMul, Int.reduceNeg, e1792, e1862, plcmp_gt, S_together2, if_neg hst, h64]
            exact hKK
        · rintro L H2 R2 ⟨x4, rfl, rfl, hf2, hE2, hS12, hSw2⟩
          have e1792 : H2 179 = h 179 := hf2 179 (by omega)
          have hlm : h 179 0 * h 186 t ≤ 4 * h 186 t := Int.mul_le_mul_of_nonneg_right (by omega) (by omega)
          have hKK := hK _ H2 R2 ⟨some (pI (h 179 0)), x4, rfl, rfl, hf2, hE2, by rw [es1]; omega, by rw [esw]; exact hSw2⟩
          rw [sh_X8_goesOn_33]
          simp (disch := first | assumption | omega) only [st_X8_goesOn_0, st_X8_goesOn_1, ↓if_pos, ↓if_neg, if_pos, if_neg, ↓reduceIte, true_and, and_true, false_and, and_false, true_or, or_true, false_or, or_false, w32_id, Kv, Kn, fup_s, fup_a, fup_k, fup_fup, Int.reduceAdd, Int.reduceSub, Int.reduceMul, Int.reduceNeg, e1792]
          exact hKK
    · rintro L H R ⟨x3, x4, rfl, rfl, hf, hE, hS1, hSw⟩
      rw [sh_X8_goesOn_24]
      simp (disch := first | assumption | omega) only [st_X8_goesOn_0, st_X8_goesOn_1, ↓if_pos, ↓if_neg, if_pos, if_neg, ↓reduceIte, true_and, and_true, false_and, and_false, true_or, or_true, false_or, or_false, w32_id, Kv, Kn, fup_s, fup_a, fup_k, fup_fup, Int.reduceAdd, Int.reduceSub, Int.reduceMul, Int.reduceNeg]
      refine (loopR (Lf := fun i => [some (pR 178), some (pI set), some (pI i), x3, x4]) (Hf := fun i => frng H 186 0 i (H 187)) (a := 0) (n := 1296) (by omega) (by rfl) (frng_nil (by omega)).symm ?_).mpr ?_
      · intro i hi hi2
        refine Iff.trans sh_X8_goesOn_99 ?_
        simp (disch := first | assumption | omega) only [st_X8_goesOn_0, st_X8_goesOn_1, ↓if_pos, ↓if_neg, if_pos, if_neg, ↓reduceIte, true_and, and_true, false_and, and_false, true_or, or_true, false_or, or_false, w32_id, Kv, Kn, fup_s, fup_a, fup_k, fup_fup, Int.reduceAdd, Int.reduceSub, Int.reduceMul, Int.reduceNeg, frng_r]
        rw [frng_end (by omega) rfl]
      · refine sh_X8_goesOn_99.mpr ?_
        simp (disch := first | assumption | omega) only [st_X8_goesOn_0, st_X8_goesOn_1, ↓if_pos, ↓if_neg, if_pos, if_neg, ↓reduceIte, true_and, and_true, false_and, and_false, true_or, or_true, false_or, or_false, w32_id, Kv, Kn, fup_s, fup_a, fup_k, fup_fup, Int.reduceAdd, Int.reduceSub, Int.reduceMul, Int.reduceNeg]
        have e186 : ∀ t : Int, 0 ≤ t → t < 1296 → frng H 186 0 1296 (H 187) 186 t = H 187 t := fun t a b => by
          unfold frng
          rw [if_pos ⟨rfl, a, b⟩]
        refine K _ (fun a ha => by rw [frng_r (by omega)]; exact hf a (by omega)) ⟨fun t a b => by rw [e186 t a b]; exact hE t a b, ?_, ?_⟩
        · rw [sgw_cg (E' := H 187) (W' := one1) 1296 (fun t a b => ⟨e186 t a (by omega), rfl⟩), hp4]
          have : sgw (h 186) one1 (1296 : Int).toNat = sgw (h 186) one1 1296 := rfl
          omega
        · rw [sgw_cg (E' := H 187) (W' := fun t => Wf (h 179) set j (cd t)) 1296 (fun t a b => ⟨e186 t a (by omega), rfl⟩), hSw]
          exact d3
theorem M_words {set len : Int} {nx : Nat} {h r : PF} {s : Int → Int} {Q : PO → PY → Nat → PC → Prop} (hW : WFr r) (hT : TWf (h 179)) (hs : 0 ≤ set) (hs2 : set < pshl 1 (h 179 1)) (hlen : 0 ≤ len ∧ len ≤ 20) (K : ∀ h' : PF, (∀ a, a < 186 ∨ 187 < a → h' a = h a) → Q (Sum.inl (some (pJ (Wf (h 179) set len.toNat 0)))) LY nx (h', r, s)) : Wp 203 35 [some (pR 178), some (pI set), some (pI len), some (pI 0), none, none] [] LY nx (h, r, s) Q := by
  have hT0 := hT.1
  have hT1 := hT.2.1
  refine (loopR (Lf := fun i => [some (pR 178), some (pI set), some (pI len), some (pI i), none, none]) (Hf := fun i => frng h 186 0 i (fun t => if t = 0 then 1 else 0)) (a := 0) (n := 1296) (by omega) (by rfl) (frng_nil (by omega)).symm ?_).mpr ?_
  · intro i hi hi2
    refine Iff.trans sh_X8_words_35 ?_
    by_cases h0 : i = 0
    · subst h0
      simp (disch := first | assumption | omega) only [st_X8_words_0, st_X8_words_1, ↓if_pos, ↓if_neg, if_pos, if_neg, ↓reduceIte, true_and, and_true, false_and, and_false, true_or, or_true, false_or, or_false, w32_id, Kv, Kn, fup_s, fup_a, fup_k, fup_fup, Int.reduceAdd, Int.reduceSub, Int.reduceMul, Int.reduceNeg]
      rw [frng_end (g := fun t => if t = 0 then (1 : Int) else 0) (v := 1) (by omega) (if_pos rfl)]
      rfl
    · skip
      simp (disch := first | assumption | omega) only [st_X8_words_0, st_X8_words_1, ↓if_pos, ↓if_neg, if_pos, if_neg, ↓reduceIte, true_and, and_true, false_and, and_false, true_or, or_true, false_or, or_false, w32_id, Kv, Kn, fup_s, fup_a, fup_k, fup_fup, Int.reduceAdd, Int.reduceSub, Int.reduceMul, Int.reduceNeg]
      rw [frng_end (g := fun t => if t = 0 then (1 : Int) else 0) (v := 0) (by omega) (if_neg h0)]
  · refine sh_X8_words_35.mpr ?_
    simp (disch := first | assumption | omega) only [st_X8_words_0, st_X8_words_1, ↓if_pos, ↓if_neg, if_pos, if_neg, ↓reduceIte, true_and, and_true, false_and, and_false, true_or, or_true, false_or, or_false, w32_id, Kv, Kn, fup_s, fup_a, fup_k, fup_fup, Int.reduceAdd, Int.reduceSub, Int.reduceMul, Int.reduceNeg]
    have e186 : ∀ t : Int, 0 ≤ t → t < 1296 → frng h 186 0 1296 (fun t => if t = 0 then 1 else 0) 186 t = up1 (fun _ => 0) 0 (0 + 1) t := fun t a b => by
      unfold frng up1
      rw [if_pos ⟨rfl, a, b⟩]
      rfl
    have hsum : ∀ W : Int → Int, sgw (frng h 186 0 1296 (fun t => if t = 0 then 1 else 0) 186) W 1296 = W 0 := fun W => by
      rw [sgw_cg (E' := up1 (fun _ => 0) 0 (0 + 1)) (W' := W) 1296 (fun t a b => ⟨e186 t a (by omega), rfl⟩)]
      have := sgw_up (E := fun _ => 0) (W := W) (to := 0) (a := 1) (by omega) 1296
      (try dsimp only at this)
      rw [this, sgw_0, if_pos (by omega)]
      omega
    refine loopW (Inv := fun k L H R => L = [some (pR 178), some (pI set), some (pI len), some (pI k), none, none] ∧ R = r ∧ (∀ a, a < 186 ∨ 187 < a → H a = h a) ∧ DOk (h 179) set (Wf (h 179) set len.toNat 0) k.toNat (len - k).toNat (H 186)) (a := 0) (n := len) (by omega) ?_ ?_ _ _ _ ⟨rfl, rfl, fun a ha => frng_r (by omega), fun t a b => ?_, ?_, ?_⟩
    · rintro k L H R hk hk2 ⟨rfl, rfl, hf, hD⟩ hK
      have e179 : H 179 = h 179 := hf 179 (by omega)
      rw [sh_X8_words_65]
      simp (disch := first | assumption | omega) only [st_X8_words_0, st_X8_words_1, ↓if_pos, ↓if_neg, if_pos, if_neg, ↓reduceIte, true_and, and_true, false_and, and_false, true_or, or_true, false_or, or_false, w32_id, Kv, Kn, fup_s, fup_a, fup_k, fup_fup, Int.reduceAdd, Int.reduceSub, Int.reduceMul, Int.reduceNeg]
      rw [show (len - k).toNat = (len - (k + 1)).toNat + 1 from by omega] at hD
      refine C_goesOn (k := k.toNat) (j := (len - (k + 1)).toNat) (V := Wf (h 179) set len.toNat 0) hW (by rw [e179]; exact hT) (by omega) (by rw [e179]; exact hD) (fun h' f1 hD' => ?_)
      rw [e179] at hD'
      simp (disch := first | assumption | omega) only [st_X8_words_0, st_X8_words_1, ↓if_pos, ↓if_neg, if_pos, if_neg, ↓reduceIte, true_and, and_true, false_and, and_false, true_or, or_true, false_or, or_false, w32_id, Kv, Kn, fup_s, fup_a, fup_k, fup_fup, Int.reduceAdd, Int.reduceSub, Int.reduceMul, Int.reduceNeg]
      exact hK _ h' _ ⟨rfl, rfl, fun a ha => by rw [f1 a ha]; exact hf a ha, by rw [show (k + 1).toNat = k.toNat + 1 from by omega]; exact hD'⟩
    · rintro L H R ⟨rfl, rfl, hf, hD⟩
      have e179 : H 179 = h 179 := hf 179 (by omega)
      have hTH : TWf (H 179) := by rw [e179]; exact hT
      have hsH : set < pshl 1 (H 179 1) := by rw [e179]; exact hs2
      rw [show (len - len).toNat = 0 from by omega] at hD
      obtain ⟨d1, d2, d3⟩ := hD
      have hp := p4_le (j := len.toNat) (by omega)
      have hnn := sgw_nn (E := H 186) (W := one1) 1296 (one_nn (fun t a b => (d1 t a (by omega)).1))
      have hle : ∀ n : Nat, n ≤ 1296 → 0 ≤ sgw (H 186) (fun t => Wf (h 179) set 0 (cd t)) n ∧ sgw (H 186) (fun t => Wf (h 179) set 0 (cd t)) n ≤ sgw (H 186) one1 n := by
        intro n
        induction n with
        | zero => exact fun _ => ⟨Int.le_refl _, Int.le_refl _⟩
        | succ n ih =>
          intro hn
          have ih := ih (by omega)
          have d := (d1 n (by omega) (by omega)).1
          rw [sgw_s, sgw_s]
          unfold one1
          rw [Int.mul_one]
          have hw : Wf (h 179) set 0 (cd n) = gFd (h 179) set 0 (cd n) := rfl
          have one1e : sgw (H 186) (fun _ => 1) n = sgw (H 186) one1 n := rfl
          rw [one1e]
          rcases gFd_01 (T := (h 179)) (set := set) (ap := 0) (c := cd n) with z | z
          · rw [hw, z, Int.mul_one]; omega
          · rw [hw, z, Int.mul_zero]; omega
      rw [sh_X8_words_65]
      simp (disch := first | assumption | omega) only [st_X8_words_0, st_X8_words_1, ↓if_pos, ↓if_neg, if_pos, if_neg, ↓reduceIte, true_and, and_true, false_and, and_false, true_or, or_true, false_or, or_false, w32_id, Kv, Kn, fup_s, fup_a, fup_k, fup_fup, Int.reduceAdd, Int.reduceSub, Int.reduceMul, Int.reduceNeg]
      refine loopL (Inv := fun t L => L = [some (pR 178), some (pI set), some (pI len), some (pJ (sgw (H 186) (fun t => Wf (h 179) set 0 (cd t)) t.toNat)), none, some (pI t)]) (a := 0) (n := 1296) (by omega) ?_ ?_ _ rfl
      · rintro t L ht ht2 rfl hK
        have ett : ((t.toNat : Nat) : Int) = t := by omega
        have hK2 := hK _ rfl
        have hw : Wf (h 179) set 0 (cd t) = gFd (h 179) set 0 (cd t) := rfl
        rw [show (t + 1).toNat = t.toNat + 1 from by omega, sgw_s, ett, hw] at hK2
        have d := d1 t ht ht2
        have hl1 := hle t.toNat (by omega)
        have hl2 := hnn.2 t.toNat (by omega)
        have hl3 : H 186 t ≤ sgw (H 186) one1 1296 := by
          have := hl2.1
          rw [ett] at this
          unfold one1 at this
          rw [Int.mul_one] at this
          exact this
        generalize sgw (H 186) (fun t => Wf (h 179) set 0 (cd t)) t.toNat = A at *
        have h64 : w64 (A + H 186 t) = A + H 186 t := w64_id (by omega) (by omega)
        have h640 : w64 (A + 0) = A := by rw [Int.add_zero]; exact w64_id (by omega) (by omega)
        rw [sh_X8_words_86]
        by_cases hz : H 186 t = 0
        · rw [hz, Int.zero_mul, Int.add_zero] at hK2
          simp (disch := first | assumption | omega) only [st_X8_words_0, st_X8_words_1, ↓if_pos, ↓if_neg, if_pos, if_neg, ↓reduceIte, true_and, and_true, false_and, and_false, true_or, or_true, false_or, or_false, w32_id, Kv, Kn, fup_s, fup_a, fup_k, fup_fup, Int.reduceAdd, Int.reduceSub, Int.reduceMul, Int.reduceNeg, hz, plcmp_eq, h640]
          exact hK2
        · have hpos : 0 < H 186 t := by omega
          have hvc := d.2 hpos
          have hvcH : VC (H 179) set 0 (cd t) := by rw [e179]; exact hvc
          rcases gFd_01 (T := (h 179)) (set := set) (ap := 0) (c := cd t) with z | z
          · rw [z, Int.mul_one] at hK2
            simp (disch := first | assumption | omega) only [st_X8_words_0, st_X8_words_1, ↓if_pos, ↓if_neg, if_pos, if_neg, ↓reduceIte, true_and, and_true, false_and, and_false, true_or, or_true, false_or, or_false, w32_id, Kv, Kn, fup_s, fup_a, fup_k, fup_fup, Int.reduceAdd, Int.reduceSub, Int.reduceMul, Int.reduceNeg, plcmp_gt, S_areEnds2, e179, z, h64]
            exact hK2
          · rw [z, Int.mul_zero, Int.add_zero] at hK2
            simp (disch := first | assumption | omega) only [st_X8_words_0, st_X8_words_1, ↓if_pos, ↓if_neg, if_pos, if_neg, ↓reduceIte, true_and, and_true, false_and, and_false, true_or, or_true, false_or, or_false, w32_id, Kv, Kn, fup_s, fup_a, fup_k, fup_fup, Int.reduceAdd, Int.reduceSub, Int.reduceMul, Int.reduceNeg, plcmp_gt, S_areEnds2, e179, z, h640]
            exact hK2
      · rintro L rfl
        have e : sgw (H 186) (fun t => Wf (h 179) set 0 (cd t)) (1296 : Int).toNat = Wf (h 179) set len.toNat 0 := d3
        rw [e, sh_X8_words_86]
        simp (disch := first | assumption | omega) only [st_X8_words_0, st_X8_words_1, ↓if_pos, ↓if_neg, if_pos, if_neg, ↓reduceIte, true_and, and_true, false_and, and_false, true_or, or_true, false_or, or_false, w32_id, Kv, Kn, fup_s, fup_a, fup_k, fup_fup, Int.reduceAdd, Int.reduceSub, Int.reduceMul, Int.reduceNeg]
        exact K H hf
    · rw [e186 t a b]
      by_cases ht0 : t = 0
      · rw [ht0, up1_s, cd_0]; exact ⟨by omega, fun _ => vc_0 hT⟩
      · rw [up1_k ht0]; exact ⟨by omega, fun z => absurd z (by omega)⟩
    · rw [hsum]; exact Int.le_refl _
    · rw [hsum, cd_0, show (len - 0).toNat = len.toNat from by omega]
theorem Q_20 {i : Int} {l5 l6 : Option PV} {nx : Nat} {h r : PF} {s : Int → Int} {Q : PO → PY → Nat → PC → Prop} (hI : Inv h r) (hi : 0 ≤ i) (hi2 : i + 5 < s (-1)) (hi3 : s (-1) ≤ 4000) (H : ∀ (a b : Option PV) (nx' : Nat) (h' r' : PF), Inv h' r' → nx' ≤ nx + 1 → Wp 257 2079 [some (pR (-1000)), some (pR 1), some (pR 178), some (pR 195), some (pI i), a, b, none] [] LY nx' (h', r', s) Q) : Wp 257 1236 [some (pR (-1000)), some (pR 1), some (pR 178), some (pR 195), some (pI i), l5, l6, none] [] LY nx (h, r, s) Q := by
  obtain ⟨hW, hp0, hp1, hp2, hpk, hP, hS0, hk144, hT, hN, hR, hS, ep0, ep1, ep3, ep4, hT0, hT1⟩ := beg_of hI
  have k153 : kd LY 153 = (1, 80) := by decide +kernel
  have k152 : kd LY 152 = (1, 6) := by decide +kernel
  have k151 : kd LY 151 = (1, 60) := by decide +kernel
  obtain ⟨⟨hs0, hsk⟩, ⟨hsr0, hsp0, hsd0⟩, ⟨hsr1, hsp1, hsd1⟩, ⟨hsr2, hsp2, hsd2⟩, ⟨hsr3, hsp3, hsd3⟩, ⟨hsr4, hsp4, hsd4⟩, ⟨hsr5, hsp5, hsd5⟩, ⟨hsr6, hsp6, hsd6⟩, ⟨hsr7, hsp7, hsd7⟩, ⟨hsr12, hsp12, hsd12⟩⟩ := stok_144 hW
  have hp16 := pshl_rng hT1.1 hT1.2
  have hwp : w32 (pshl 1 (h 179 1) - 1) = pshl 1 (h 179 1) - 1 := w32_id (by omega) (by omega)
  by_cases hm : s (i + 1) < 0 ∨ pshl 1 (h 179 1) ≤ s (i + 1)
  · simp (disch := first | assumption | omega | (simp (disch := omega) only [fup_s, fup_k, fup_a, fup_r, frow_s, frow_r, frow_sk, frow_rk, fcpy_r, frng_r]; assumption) | (simp (disch := omega) only [fup_s, fup_k, fup_a, fup_r, frow_s, frow_r, frow_sk, frow_rk, fcpy_r, frng_r]; omega)) only [st_law_20, st_L_words, st_X7_words, st_X8_words_0, st_X8_words_1, st_X8_noSet, ↓if_pos, ↓if_neg, if_pos, if_neg, ↓reduceIte, true_and, and_true, false_and, and_false, true_or, or_true, false_or, or_false, w32_id, Kv, Kn, fup_s, fup_a, fup_k, fup_fup, Int.reduceAdd, Int.reduceSub, Int.reduceMul, Int.reduceNeg, S_thrown, fup_s, fup_k, fup_a, fup_r, frow_s, frow_r, frow_sk, frow_rk, fcpy_r, frng_r, plcmp_eq, S_checkSet, S_within, S_throwsIf, S_checkArgument, kh_L_words_1, kx_X7_words, ep1, hwp]
    all_goals ((try split) <;> exact H _ _ _ _ _ (inv_same hI ⟨fun a ha => by unfold Core at ha; simp (disch := omega) only [fup_r, frow_r], by simp (disch := omega) only [fup_k, fup_a, frow_rk], by simp (disch := omega) only [fup_k, fup_a, frow_rk], by simp (disch := omega) only [fup_k, fup_a, frow_rk]⟩) (by omega))
  have hm1 : 0 ≤ s (i + 1) ∧ s (i + 1) < pshl 1 (h 179 1) := by omega
  by_cases hl : s (i + 2) < 0 ∨ 20 < s (i + 2)
  · simp (disch := first | assumption | omega | (simp (disch := omega) only [fup_s, fup_k, fup_a, fup_r, frow_s, frow_r, frow_sk, frow_rk, fcpy_r, frng_r]; assumption) | (simp (disch := omega) only [fup_s, fup_k, fup_a, fup_r, frow_s, frow_r, frow_sk, frow_rk, fcpy_r, frng_r]; omega)) only [st_law_20, st_L_words, st_X7_words, st_X8_words_0, st_X8_words_1, st_X8_noSet, ↓if_pos, ↓if_neg, if_pos, if_neg, ↓reduceIte, true_and, and_true, false_and, and_false, true_or, or_true, false_or, or_false, w32_id, Kv, Kn, fup_s, fup_a, fup_k, fup_fup, Int.reduceAdd, Int.reduceSub, Int.reduceMul, Int.reduceNeg, S_thrown, fup_s, fup_k, fup_a, fup_r, frow_s, frow_r, frow_sk, frow_rk, fcpy_r, frng_r, plcmp_eq, S_checkSet, S_within, S_throwsIf, S_checkArgument, kh_L_words_0, kx_X7_words, ep1, hwp]
    all_goals ((try split) <;> exact H _ _ _ _ _ (inv_same hI ⟨fun a ha => by unfold Core at ha; simp (disch := omega) only [fup_r, frow_r], by simp (disch := omega) only [fup_k, fup_a, frow_rk], by simp (disch := omega) only [fup_k, fup_a, frow_rk], by simp (disch := omega) only [fup_k, fup_a, frow_rk]⟩) (by omega))
  have hl1 : 0 ≤ s (i + 2) ∧ s (i + 2) ≤ 20 := by omega
  have hp20 : 20 < r 1 6 := by omega
  simp (disch := first | assumption | omega | (simp (disch := omega) only [fup_s, fup_k, fup_a, fup_r, frow_s, frow_r, frow_sk, frow_rk, fcpy_r, frng_r]; assumption) | (simp (disch := omega) only [fup_s, fup_k, fup_a, fup_r, frow_s, frow_r, frow_sk, frow_rk, fcpy_r, frng_r]; omega)) only [st_law_20, st_L_words, st_X7_words, ↓if_pos, ↓if_neg, if_pos, if_neg, ↓reduceIte, true_and, and_true, false_and, and_false, true_or, or_true, false_or, or_false, w32_id, Kv, Kn, fup_s, fup_a, fup_k, fup_fup, Int.reduceAdd, Int.reduceSub, Int.reduceMul, Int.reduceNeg, S_thrown, fup_s, fup_k, fup_a, fup_r, frow_s, frow_r, frow_sk, frow_rk, fcpy_r, frng_r, plcmp_eq, S_checkSet, S_within, S_throwsIf, S_checkArgument, ep1]
  refine C_count hW hI.1 hP hp20 hT hR (search_of hI.2.2.2.2.2.2.2.2 (by simp (disch := omega) only [fup_s, fup_k, fup_a, fup_r, frow_s, frow_r, frow_sk, frow_rk, fcpy_r, frng_r]) (by simp (disch := omega) only [fup_s, fup_k, fup_a, fup_r, frow_s, frow_r, frow_sk, frow_rk, fcpy_r, frng_r]) (by simp (disch := omega) only [fup_s, fup_k, fup_a, fup_r, frow_s, frow_r, frow_sk, frow_rk, fcpy_r, frng_r])) hl1 (fun h2 r2 hf2 hRO2 hrr hF2 => ?_)
  (try simp (disch := omega) only [fup_s, fup_k, fup_a, fup_r, frow_s, frow_r, frow_sk, frow_rk, fcpy_r, frng_r] at hf2)
  have hW2 := hRO2.1
  have e178 := hf2 178 (by omega)
  have e179 := hf2 179 (by omega)
  have e1791 : h2 179 1 = h 179 1 := by rw [e179]
  simp (disch := first | assumption | omega | (simp (disch := omega) only [fup_s, fup_k, fup_a, fup_r, frow_s, frow_r, frow_sk, frow_rk, fcpy_r, frng_r]; assumption) | (simp (disch := omega) only [fup_s, fup_k, fup_a, fup_r, frow_s, frow_r, frow_sk, frow_rk, fcpy_r, frng_r]; omega)) only [st_law_20, st_L_words, st_X7_words, st_X8_words_0, st_X8_words_1, st_X8_noSet, ↓if_pos, ↓if_neg, if_pos, if_neg, ↓reduceIte, true_and, and_true, false_and, and_false, true_or, or_true, false_or, or_false, w32_id, Kv, Kn, fup_s, fup_a, fup_k, fup_fup, Int.reduceAdd, Int.reduceSub, Int.reduceMul, Int.reduceNeg, S_thrown, fup_s, fup_k, fup_a, fup_r, frow_s, frow_r, frow_sk, frow_rk, fcpy_r, frng_r, plcmp_eq, S_checkSet, S_within, S_throwsIf, e179, hwp]
  refine M_words hW2 (by simp (disch := omega) only [fup_s, fup_k, fup_a, fup_r, frow_s, frow_r, frow_sk, frow_rk, fcpy_r, frng_r, e179]; exact hT) hm1.1 (by simp (disch := omega) only [fup_s, fup_k, fup_a, fup_r, frow_s, frow_r, frow_sk, frow_rk, fcpy_r, frng_r, e179]; exact hm1.2) hl1 (fun h3 f3 => ?_)
  simp (disch := omega) only [fup_s, fup_k, fup_a, fup_r, frow_s, frow_r, frow_sk, frow_rk, fcpy_r, frng_r, e179] at f3 ⊢
  have e1780 : h3 178 0 = 0 := by rw [f3 178 (by omega)]; simp (disch := omega) only [fup_s, fup_k, fup_a, fup_r, frow_s, frow_r, frow_sk, frow_rk, fcpy_r, frng_r]
  have e1950 : h3 195 0 = Wf (h 179) (s (i + 1)) (s (i + 2)).toNat 0 := by rw [f3 195 (by omega)]; simp (disch := omega) only [fup_s, fup_k, fup_a, fup_r, frow_s, frow_r, frow_sk, frow_rk, fcpy_r, frng_r]
  have hinv : Inv h3 r2 := inv_srch hI hRO2 (by rw [hrr 1 (by omega)]) (fun a g1 g2 g3 g4 => by rw [f3 a (by omega)]; simp (disch := omega) only [fup_s, fup_k, fup_a, fup_r, frow_s, frow_r, frow_sk, frow_rk, fcpy_r, frng_r]; exact hf2 a (by omega)) (by rw [f3 178 (by omega)]; simp (disch := omega) only [fup_s, fup_k, fup_a, fup_r, frow_s, frow_r, frow_sk, frow_rk, fcpy_r, frng_r]; rw [e178]) (by rw [f3 178 (by omega)]; simp (disch := omega) only [fup_s, fup_k, fup_a, fup_r, frow_s, frow_r, frow_sk, frow_rk, fcpy_r, frng_r]; rw [e178]) (by rw [f3 178 (by omega)]; simp (disch := omega) only [fup_s, fup_k, fup_a, fup_r, frow_s, frow_r, frow_sk, frow_rk, fcpy_r, frng_r]; rw [e178]) (search_of hF2 (by rw [f3 15 (by omega)]; simp (disch := omega) only [fup_s, fup_k, fup_a, fup_r, frow_s, frow_r, frow_sk, frow_rk, fcpy_r, frng_r]) (by rw [f3 16 (by omega)]; simp (disch := omega) only [fup_s, fup_k, fup_a, fup_r, frow_s, frow_r, frow_sk, frow_rk, fcpy_r, frng_r]) (by rw [f3 17 (by omega)]; simp (disch := omega) only [fup_s, fup_k, fup_a, fup_r, frow_s, frow_r, frow_sk, frow_rk, fcpy_r, frng_r]))
  simp (disch := first | assumption | omega | (simp (disch := omega) only [fup_s, fup_k, fup_a, fup_r, frow_s, frow_r, frow_sk, frow_rk, fcpy_r, frng_r]; assumption) | (simp (disch := omega) only [fup_s, fup_k, fup_a, fup_r, frow_s, frow_r, frow_sk, frow_rk, fcpy_r, frng_r]; omega)) only [st_law_20, st_L_words, st_X8_words_0, st_X8_words_1, ↓if_pos, ↓if_neg, if_pos, if_neg, ↓reduceIte, true_and, and_true, false_and, and_false, true_or, or_true, false_or, or_false, w32_id, Kv, Kn, fup_s, fup_a, fup_k, fup_fup, Int.reduceAdd, Int.reduceSub, Int.reduceMul, Int.reduceNeg, S_thrown, fup_s, fup_k, fup_a, fup_r, frow_s, frow_r, frow_sk, frow_rk, fcpy_r, frng_r, plcmp_eq, e1780, e1950]
  exact H _ _ _ _ _ hinv (by omega)
