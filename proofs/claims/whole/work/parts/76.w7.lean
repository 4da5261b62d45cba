/-! WORDS THAT JUST ONE ACCEPTS, THE REFERENCE: level by level -/
def XOk (T : Int → Int) (m o : Int) (X : Int → Int) : Prop := X 8 = 0 ∧ (∀ c, 0 ≤ c → c < 49 → X c = -1 ∨ (0 ≤ X c ∧ Rc T m o (X c).toNat c)) ∧ ∀ c e, 0 ≤ c → c < 49 → 0 ≤ e → X c = e + 1 → ∃ c', 0 ≤ c' ∧ c' < 49 ∧ X c' = e
/-- the pairs that have been looked at: not told apart, and their neighbours are met -/
def XCl (T : Int → Int) (m o : Int) (X : Int → Int) (lv q : Int) : Prop := ∀ c, 0 ≤ c → c < 49 → (0 ≤ X c ∧ X c < lv ∨ X c = lv ∧ c < q) → ¬ df T m o c ∧ ∀ l, 0 ≤ l → l < T 0 → X (pn T m o c l) ≠ -1 ∧ X (pn T m o c l) ≤ X c + 1
theorem x48 {T : Int → Int} {m o : Int} {X : Int → Int} (h : XOk T m o X) {c : Int} (hc : 0 ≤ c) (hc2 : c < 49) : X c ≤ 48 := by
  by_cases h0 : X c < 0
  · omega
  · have dn : ∀ j : Nat, (j : Int) ≤ X c → ∃ b : Int, 0 ≤ b ∧ b < 49 ∧ X b = X c - j := by
      intro j
      induction j with
      | zero => intro _; exact ⟨c, hc, hc2, by omega⟩
      | succ j ih =>
        intro hj
        obtain ⟨b, b1, b2, b3⟩ := ih (by omega)
        obtain ⟨b', g1, g2, g3⟩ := h.2.2 b (X c - j - 1) b1 b2 (by omega) (by omega)
        exact ⟨b', g1, g2, by omega⟩
    have ex : ∀ i : Nat, ∃ b : Nat, (i : Int) ≤ X c → b < 49 ∧ X b = i := by
      intro i
      by_cases hi : (i : Int) ≤ X c
      · obtain ⟨b, b1, b2, b3⟩ := dn (X c - i).toNat (by omega)
        exact ⟨b.toNat, fun _ => ⟨by omega, by rw [Int.toNat_of_nonneg b1, b3]; omega⟩⟩
      · exact ⟨0, fun z => absurd z hi⟩
    have hg := fun i => Classical.choose_spec (ex i)
    have := pig 49 ((X c).toNat + 1) (fun i => Classical.choose (ex i)) (fun i hi => (hg i (by omega)).1) (fun i j hi hj e => by
      have a := (hg i (by omega)).2
      have b := (hg j (by omega)).2
      have e' : Classical.choose (ex i) = Classical.choose (ex j) := e
      rw [e', b] at a
      omega)
    omega
theorem x_le {T : Int → Int} {m o lv : Int} {X : Int → Int} (hT : TWf T) (hm : 0 ≤ m ∧ m < T 1) (ho : 0 ≤ o ∧ o < T 1) (hX : XOk T m o X) (hC : XCl T m o X lv 0) : ∀ (d : Nat) (k : Int), (d : Int) ≤ lv → Rc T m o d k → 0 ≤ X k ∧ X k ≤ d
  | 0, k, _, hk => by
    have : k = 8 := hk
    rw [this, hX.1]; omega
  | d + 1, k, hd, ⟨k', l, h1, h2, h3, h4⟩ => by
    have hT0 := hT.1
    have ih := x_le hT hm ho hX hC d k' (by omega) h1
    have hr := rc_rng hT hm ho d k' h1
    have hc := (hC k' hr.1 hr.2 (Or.inl (by omega))).2 l h2 h3
    have hp := pn_rng hT hm ho hr.1 hr.2 h2 (show l < 4 by omega)
    rw [← h4] at hc hp
    have := hX.2.1 k hp.1 hp.2
    omega
theorem x_found {T : Int → Int} {m o lv q : Int} {X : Int → Int} (hT : TWf T) (hm : 0 ≤ m ∧ m < T 1) (ho : 0 ≤ o ∧ o < T 1) (hX : XOk T m o X) (hC : XCl T m o X lv q) (h0 : 0 ≤ lv) (hq : 0 ≤ q) (hq2 : q < 49) (he : X q = lv) (hd : df T m o q) : RSp T m o lv := by
  have hr : Rc T m o lv.toNat q := by
    rcases hX.2.1 q hq hq2 with z | z
    · omega
    · rw [← he]; exact z.2
  refine Or.inr ⟨h0, ⟨q, hr, hd⟩, fun d k hdl hk => ?_⟩
  have hC0 : XCl T m o X lv 0 := fun c c1 c2 c3 => hC c c1 c2 (by omega)
  have hx := x_le hT hm ho hX hC0 d k (by omega) hk
  have hrk := rc_rng hT hm ho d k hk
  exact (hC k hrk.1 hrk.2 (Or.inl (by omega))).1
theorem x_none {T : Int → Int} {m o : Int} {X : Int → Int} (hT : TWf T) (hm : 0 ≤ m ∧ m < T 1) (ho : 0 ≤ o ∧ o < T 1) (hX : XOk T m o X) (hC : XCl T m o X 49 0) : RSp T m o (-1) := by
  have hT0 := hT.1
  have key : ∀ (d : Nat) (k : Int), Rc T m o d k → 0 ≤ X k := by
    intro d
    induction d with
    | zero => intro k hk; have : k = 8 := hk; rw [this, hX.1]; omega
    | succ d ih =>
      rintro k ⟨k', l, h1, h2, h3, h4⟩
      have i1 := ih k' h1
      have hr := rc_rng hT hm ho d k' h1
      have h48 := x48 hX hr.1 hr.2
      have hc := ((hC k' hr.1 hr.2 (Or.inl (by omega))).2 l h2 h3).1
      have hp := pn_rng hT hm ho hr.1 hr.2 h2 (show l < 4 by omega)
      rw [← h4] at hc hp
      have := hX.2.1 k hp.1 hp.2
      omega
  refine Or.inl ⟨rfl, fun d k hk => ?_⟩
  have hr := rc_rng hT hm ho d k hk
  have h48 := x48 hX hr.1 hr.2
  exact (hC k hr.1 hr.2 (Or.inl ⟨key d k hk, by omega⟩)).1
/-- a neighbour of q, met on the next level if it wasn't met before -/
def xUp (X : Int → Int) (to lv : Int) : Int → Int := up1 X to (if X to = -1 then lv + 1 else X to)
theorem xUp_k {X : Int → Int} {to lv c : Int} (h : X c ≠ -1) : xUp X to lv c = X c := by
  unfold xUp
  by_cases hc : c = to
  · rw [hc, up1_s, if_neg (by rw [← hc]; exact h)]
  · rw [up1_k hc]
theorem xUp_s {X : Int → Int} {to lv : Int} (h : 0 ≤ lv) : xUp X to lv to ≠ -1 := by
  unfold xUp
  rw [up1_s]
  split
  · omega
  · assumption
theorem xUp_c {X : Int → Int} {to lv c : Int} : xUp X to lv c = X c ∨ (c = to ∧ X to = -1 ∧ xUp X to lv c = lv + 1) := by
  unfold xUp
  by_cases hc : c = to
  · rw [hc, up1_s]
    by_cases h : X to = -1
    · rw [if_pos h]; exact Or.inr ⟨rfl, h, rfl⟩
    · rw [if_neg h]; exact Or.inl rfl
  · rw [up1_k hc]; exact Or.inl rfl
theorem x_step {T : Int → Int} {m o lv q l : Int} {X : Int → Int} (hT : TWf T) (hm : 0 ≤ m ∧ m < T 1) (ho : 0 ≤ o ∧ o < T 1) (hX : XOk T m o X) (hC : XCl T m o X lv q) (h0 : 0 ≤ lv) (hq : 0 ≤ q) (hq2 : q < 49) (he : X q = lv) (hl : 0 ≤ l) (hl2 : l < T 0) (hB : ∀ c, 0 ≤ c → c < 49 → X c ≤ lv + 1) (hN : ∀ l', 0 ≤ l' → l' < l → X (pn T m o q l') ≠ -1 ∧ X (pn T m o q l') ≤ lv + 1) : XOk T m o (xUp X (pn T m o q l) lv) ∧ XCl T m o (xUp X (pn T m o q l) lv) lv q ∧ xUp X (pn T m o q l) lv q = lv ∧ (∀ c, 0 ≤ c → c < 49 → xUp X (pn T m o q l) lv c ≤ lv + 1) ∧ ∀ l', 0 ≤ l' → l' < l + 1 → xUp X (pn T m o q l) lv (pn T m o q l') ≠ -1 ∧ xUp X (pn T m o q l) lv (pn T m o q l') ≤ lv + 1 := by
  have hT0 := hT.1
  have hp := pn_rng hT hm ho hq hq2 hl (show l < 4 by omega)
  have hrq : Rc T m o lv.toNat q := by
    rcases hX.2.1 q hq hq2 with z | z
    · omega
    · rw [← he]; exact z.2
  have hB' : ∀ c, 0 ≤ c → c < 49 → xUp X (pn T m o q l) lv c ≤ lv + 1 := fun c c1 c2 => by
    rcases xUp_c (X := X) (to := pn T m o q l) (lv := lv) (c := c) with z | z
    · rw [z]; exact hB c c1 c2
    · rw [z.2.2]; omega
  refine ⟨⟨by rw [xUp_k (by rw [hX.1]; omega)]; exact hX.1, fun c c1 c2 => ?_, fun c e c1 c2 e0 ee => ?_⟩, fun c c1 c2 c3 => ?_, by rw [xUp_k (by omega)]; exact he, hB', fun l' g1 g2 => ?_⟩
  · rcases xUp_c (X := X) (to := pn T m o q l) (lv := lv) (c := c) with z | z
    · rw [z]; exact hX.2.1 c c1 c2
    · rw [z.2.2]
      refine Or.inr ⟨by omega, ?_⟩
      rw [show (lv + 1).toNat = lv.toNat + 1 from by omega]
      exact ⟨q, l, hrq, hl, hl2, z.1⟩
  · rcases xUp_c (X := X) (to := pn T m o q l) (lv := lv) (c := c) with z | z
    · rw [z] at ee
      obtain ⟨c', g1, g2, g3⟩ := hX.2.2 c e c1 c2 e0 ee
      exact ⟨c', g1, g2, by rw [xUp_k (by omega)]; exact g3⟩
    · rw [z.2.2] at ee
      exact ⟨q, hq, hq2, by rw [xUp_k (by omega)]; omega⟩
  · have hXc : xUp X (pn T m o q l) lv c = X c := by
      rcases xUp_c (X := X) (to := pn T m o q l) (lv := lv) (c := c) with z | z
      · exact z
      · rw [z.2.2] at c3; omega
    rw [hXc] at c3 ⊢
    have hc := hC c c1 c2 c3
    refine ⟨hc.1, fun l' g1 g2 => ?_⟩
    have h2 := hc.2 l' g1 g2
    rw [xUp_k h2.1]
    exact h2
  · by_cases hl' : l' = l
    · rw [hl']
      exact ⟨xUp_s h0, hB' _ hp.1 hp.2⟩
    · have h2 := hN l' g1 (by omega)
      rw [xUp_k h2.1]
      exact h2
theorem x_nextq {T : Int → Int} {m o lv q : Int} {X : Int → Int} (hC : XCl T m o X lv q) (hq : X q = lv → ¬ df T m o q ∧ ∀ l, 0 ≤ l → l < T 0 → X (pn T m o q l) ≠ -1 ∧ X (pn T m o q l) ≤ lv + 1) : XCl T m o X lv (q + 1) := by
  intro c c1 c2 c3
  by_cases h : X c = lv ∧ c = q
  · rw [h.2]
    have e : X q = lv := by rw [← h.2]; exact h.1
    rw [e]
    exact hq e
  · exact hC c c1 c2 (by omega)
theorem x_nextl {T : Int → Int} {m o lv : Int} {X : Int → Int} (hC : XCl T m o X lv 49) : XCl T m o X (lv + 1) 0 := fun c c1 c2 c3 => hC c c1 c2 (by omega)
theorem S_gd {m t l : Int} {nx : Nat} {h r : PF} {s : Int → Int} {Q : PO → PY → Nat → PC → Prop} (hW : WFr r) (hT : TWf (h 179)) (hm : 0 ≤ m) (hm2 : m < h 179 1) (ht : 0 ≤ t) (ht2 : t ≤ 6) (hl : 0 ≤ l) (hl2 : l < 4) : Wp 209 0 [some (pR 178), some (pI m), some (pI t), some (pI l)] [] LY nx (h, r, s) Q ↔ Q (Sum.inl (some (pI (gd (h 179) m t l)))) LY nx (h, r, s) := S_goOrDie hW hT hm hm2 ht ht2 hl hl2
theorem S_ov {m t : Int} {nx : Nat} {h r : PF} {s : Int → Int} {Q : PO → PY → Nat → PC → Prop} (hW : WFr r) (hm : 0 ≤ m) (hm2 : m < 4) (ht : 0 ≤ t) (ht2 : t ≤ 6) {b : Int} (hb : b = 1 ∧ ov (h 179) m t ∨ b = 0 ∧ ¬ ov (h 179) m t) : Wp 210 0 [some (pR 178), some (pI m), some (pI t)] [] LY nx (h, r, s) Q ↔ Q (Sum.inl (some (pI b))) LY nx (h, r, s) := by
  rw [S_isOver hW hm hm2 ht ht2]
  unfold ov at hb
  rcases hb with z | z
  · rw [if_pos z.2, z.1]
  · rw [if_neg z.2, z.1]
theorem ov_01 (T : Int → Int) (m t : Int) : ∃ b : Int, b = 1 ∧ ov T m t ∨ b = 0 ∧ ¬ ov T m t := by
  by_cases h : ov T m t
  · exact ⟨1, Or.inl ⟨rfl, h⟩⟩
  · exact ⟨0, Or.inr ⟨rfl, h⟩⟩
theorem M_differs {m o : Int} {nx : Nat} {h r : PF} {s : Int → Int} {Q : PO → PY → Nat → PC → Prop} (hW : WFr r) (hT : TWf (h 179)) (hm : 0 ≤ m ∧ m < h 179 1) (ho : 0 ≤ o ∧ o < h 179 1) (K : ∀ (h' : PF) (v : Int), (∀ a, a ≠ 191 → h' a = h a) → RSp (h 179) m o v → Q (Sum.inl (some (pI v))) LY nx (h', r, s)) : Wp 211 26 [some (pR 178), some (pI m), some (pI o), some (pI 0), none, none, none] [] LY nx (h, r, s) Q := by
  have hT0 := hT.1
  have hT1 := hT.2.1
  refine (loopR (Lf := fun i => [some (pR 178), some (pI m), some (pI o), some (pI i), none, none, none]) (Hf := fun i => frng h 191 0 i (fun t => if t = 8 then 0 else -1)) (a := 0) (n := 49) (by omega) (by rfl) (frng_nil (by omega)).symm ?_).mpr ?_
  · intro i hi hi2
    refine Iff.trans sh_X8_differs_26 ?_
    by_cases h0 : i = 8
    · subst h0
      simp (disch := first | assumption | omega) only [st_X8_differs_0, st_X8_differs_1, ↓if_pos, ↓if_neg, if_pos, if_neg, ↓reduceIte, true_and, and_true, false_and, and_false, true_or, or_true, false_or, or_false, w32_id, Kv, Kn, fup_s, fup_a, fup_k, fup_fup, Int.reduceAdd, Int.reduceSub, Int.reduceMul, Int.reduceNeg]
      rw [frng_end (g := fun t => if t = 8 then (0 : Int) else -1) (v := 0) (by omega) (if_pos rfl)]
      rfl
    · skip
      simp (disch := first | assumption | omega) only [st_X8_differs_0, st_X8_differs_1, ↓if_pos, ↓if_neg, if_pos, if_neg, ↓reduceIte, true_and, and_true, false_and, and_false, true_or, or_true, false_or, or_false, w32_id, Kv, Kn, fup_s, fup_a, fup_k, fup_fup, Int.reduceAdd, Int.reduceSub, Int.reduceMul, Int.reduceNeg]
      rw [frng_end (g := fun t => if t = 8 then (0 : Int) else -1) (v := -1) (by omega) (if_neg h0)]
  · refine sh_X8_differs_26.mpr ?_
    simp (disch := first | assumption | omega) only [st_X8_differs_0, st_X8_differs_1, ↓if_pos, ↓if_neg, if_pos, if_neg, ↓reduceIte, true_and, and_true, false_and, and_false, true_or, or_true, false_or, or_false, w32_id, Kv, Kn, fup_s, fup_a, fup_k, fup_fup, Int.reduceAdd, Int.reduceSub, Int.reduceMul, Int.reduceNeg]
    have e191 : ∀ t : Int, 0 ≤ t → t < 49 → frng h 191 0 49 (fun t => if t = 8 then 0 else -1) 191 t = if t = 8 then 0 else -1 := fun t a b => by
      unfold frng
      rw [if_pos ⟨rfl, a, b⟩]
    refine loopW (Inv := fun lv L H R => ∃ (x4 x5 x6 : Option PV), L = [some (pR 178), some (pI m), some (pI o), some (pI lv), x4, x5, x6] ∧ R = r ∧ (∀ a, a ≠ 191 → H a = h a) ∧ XOk (h 179) m o (H 191) ∧ XCl (h 179) m o (H 191) lv 0 ∧ ∀ c, 0 ≤ c → c < 49 → H 191 c ≤ lv) (a := 0) (n := 49) (by omega) ?_ ?_ _ _ _ ⟨none, none, none, rfl, rfl, fun a ha => frng_r ha, ⟨by rw [e191 8 (by omega) (by omega), if_pos rfl], fun c c1 c2 => ?_, fun c e c1 c2 e0 ee => ?_⟩, fun c c1 c2 c3 => ?_, fun c c1 c2 => ?_⟩
    · rintro lv L H R hlv hlv2 ⟨x4, x5, x6, rfl, rfl, hf, hX, hC, hB⟩ hK
      rw [sh_X8_differs_57]
      simp (disch := first | assumption | omega) only [st_X8_differs_0, st_X8_differs_1, ↓if_pos, ↓if_neg, if_pos, if_neg, ↓reduceIte, true_and, and_true, false_and, and_false, true_or, or_true, false_or, or_false, w32_id, Kv, Kn, fup_s, fup_a, fup_k, fup_fup, Int.reduceAdd, Int.reduceSub, Int.reduceMul, Int.reduceNeg]
      refine loopW (Inv := fun q L H2 R2 => ∃ (x5 x6 : Option PV), L = [some (pR 178), some (pI m), some (pI o), some (pI lv), some (pI q), x5, x6] ∧ R2 = R ∧ (∀ a, a ≠ 191 → H2 a = h a) ∧ XOk (h 179) m o (H2 191) ∧ XCl (h 179) m o (H2 191) lv q ∧ ∀ c, 0 ≤ c → c < 49 → H2 191 c ≤ lv + 1) (a := 0) (n := 49) (by omega) ?_ ?_ _ _ _ ⟨x5, x6, rfl, rfl, hf, hX, hC, fun c c1 c2 => by have := hB c c1 c2; omega⟩
      · rintro q L H2 R2 hq hq2 ⟨x5, x6, rfl, rfl, hf2, hX2, hC2, hB2⟩ hK2
        have e179 : H2 179 = h 179 := hf2 179 (by omega)
        have hpd : pdiv q 7 = q / 7 := pdiv_nn hq (by omega) (by omega) (by omega)
        have hpm : prem q 7 = q % 7 := prem_nn hq (by omega) (by omega) (by omega)
        rw [sh_X8_differs_66]
        by_cases he : H2 191 q = lv
        · obtain ⟨b1, hb1⟩ := ov_01 (h 179) m (q / 7)
          obtain ⟨b2, hb2⟩ := ov_01 (h 179) o (q % 7)
          have hb1' : b1 = 1 ∧ ov (H2 179) m (q / 7) ∨ b1 = 0 ∧ ¬ ov (H2 179) m (q / 7) := by rw [e179]; exact hb1
          have hb2' : b2 = 1 ∧ ov (H2 179) o (q % 7) ∨ b2 = 0 ∧ ¬ ov (H2 179) o (q % 7) := by rw [e179]; exact hb2
          by_cases hbb : b1 = b2
          · have hnd : ¬ df (h 179) m o q := by
              unfold df
              intro z
              rcases hb1 with y1 | y1 <;> rcases hb2 with y2 | y2
              · exact z ⟨fun _ => y2.2, fun _ => y1.2⟩
              · omega
              · omega
              · exact z ⟨fun y => absurd y y1.2, fun y => absurd y y2.2⟩
            simp (disch := first | assumption | omega) only [st_X8_differs_0, st_X8_differs_1, ↓if_pos, ↓if_neg, if_pos, if_neg, ↓reduceIte, true_and, and_true, false_and, and_false, true_or, or_true, false_or, or_false, w32_id, Kv, Kn, fup_s, fup_a, fup_k, fup_fup, Int.reduceAdd, Int.reduceSub, Int.reduceMul, Int.reduceNeg, he, hpd, hpm, S_ov (b := b1) (m := m) (t := q / 7) hW hm.1 (show m < 4 by omega) (show 0 ≤ q / 7 by omega) (show q / 7 ≤ 6 by omega) hb1', S_ov (b := b2) (m := o) (t := q % 7) hW ho.1 (show o < 4 by omega) (show 0 ≤ q % 7 by omega) (show q % 7 ≤ 6 by omega) hb2']
            refine loopW (Inv := fun l L H3 R3 => ∃ (x6 : Option PV), L = [some (pR 178), some (pI m), some (pI o), some (pI lv), some (pI q), some (pI l), x6] ∧ R3 = R2 ∧ (∀ a, a ≠ 191 → H3 a = h a) ∧ XOk (h 179) m o (H3 191) ∧ XCl (h 179) m o (H3 191) lv q ∧ H3 191 q = lv ∧ (∀ c, 0 ≤ c → c < 49 → H3 191 c ≤ lv + 1) ∧ ∀ l', 0 ≤ l' → l' < l → H3 191 (pn (h 179) m o q l') ≠ -1 ∧ H3 191 (pn (h 179) m o q l') ≤ lv + 1) (a := 0) (n := h 179 0) (by omega) ?_ ?_ _ _ _ ⟨x6, rfl, rfl, hf2, hX2, hC2, he, hB2, fun l' g1 g2 => absurd g2 (by omega)⟩
            · rintro l L H3 R3 hl hl2 ⟨x6, rfl, rfl, hf3, hX3, hC3, he3, hB3, hN3⟩ hK3
              have e1793 : H3 179 = h 179 := hf3 179 (by omega)
              have hTH : TWf (H3 179) := by rw [e1793]; exact hT
              have e17931 : H3 179 1 = h 179 1 := by rw [e1793]
              have g1 := gd_rng (t := q / 7) hT hm.1 hm.2 (by omega) (by omega) hl (show l < 4 by omega)
              have g2 := gd_rng (t := q % 7) hT ho.1 ho.2 (by omega) (by omega) hl (show l < 4 by omega)
              have hpn : 7 * gd (h 179) m (q / 7) l + gd (h 179) o (q % 7) l = pn (h 179) m o q l := rfl
              have hpr := pn_rng hT hm ho hq hq2 hl (show l < 4 by omega)
              have hst := x_step hT hm ho hX3 hC3 hlv hq hq2 he3 hl hl2 hB3 hN3
              have hKK := hK3 _ (fup H3 191 (pn (h 179) m o q l) (if H3 191 (pn (h 179) m o q l) = -1 then lv + 1 else H3 191 (pn (h 179) m o q l))) _ ⟨some (pI (pn (h 179) m o q l)), rfl, rfl, fun a ha => by rw [fup_r ha]; exact hf3 a ha, by rw [fup_self]; exact hst.1, by rw [fup_self]; exact hst.2.1, by rw [fup_self]; exact hst.2.2.1, by rw [fup_self]; exact hst.2.2.2.1, by rw [fup_self]; exact hst.2.2.2.2⟩
              rw [sh_X8_differs_115]
              by_cases hz : H3 191 (pn (h 179) m o q l) = -1
              · rw [if_pos hz] at hKK
                simp (disch := first | assumption | omega) only [st_X8_differs_0, st_X8_differs_1, ↓if_pos, ↓if_neg, if_pos, if_neg, ↓reduceIte, true_and, and_true, false_and, and_false, true_or, or_true, false_or, or_false, w32_id, Kv, Kn, fup_s, fup_a, fup_k, fup_fup, Int.reduceAdd, Int.reduceSub, Int.reduceMul, Int.reduceNeg, e1793, hpd, hpm, S_gd, hpn, hz]
                exact hKK
              · rw [if_neg hz] at hKK
                simp (disch := first | assumption | omega) only [st_X8_differs_0, st_X8_differs_1, ↓if_pos, ↓if_neg, if_pos, if_neg, ↓reduceIte, true_and, and_true, false_and, and_false, true_or, or_true, false_or, or_false, w32_id, Kv, Kn, fup_s, fup_a, fup_k, fup_fup, Int.reduceAdd, Int.reduceSub, Int.reduceMul, Int.reduceNeg, e1793, hpd, hpm, S_gd, hpn]
                exact hKK
            · rintro L H3 R3 ⟨x6, rfl, rfl, hf3, hX3, hC3, he3, hB3, hN3⟩
              have e1793 : H3 179 = h 179 := hf3 179 (by omega)
              have hKK := hK2 _ H3 _ ⟨some (pI (h 179 0)), x6, rfl, rfl, hf3, hX3, x_nextq hC3 (fun _ => ⟨hnd, hN3⟩), hB3⟩
              rw [sh_X8_differs_115]
              simp (disch := first | assumption | omega) only [st_X8_differs_0, st_X8_differs_1, ↓if_pos, ↓if_neg, if_pos, if_neg, ↓reduceIte, true_and, and_true, false_and, and_false, true_or, or_true, false_or, or_false, w32_id, Kv, Kn, fup_s, fup_a, fup_k, fup_fup, Int.reduceAdd, Int.reduceSub, Int.reduceMul, Int.reduceNeg, e1793]
              exact hKK
          · have hd : df (h 179) m o q := by
              unfold df
              intro z
              rcases hb1 with y1 | y1 <;> rcases hb2 with y2 | y2
              · omega
              · exact y2.2 (z.mp y1.2)
              · exact y1.2 (z.mpr y2.2)
              · omega
            have hKK := K H2 lv hf2 (x_found hT hm ho hX2 hC2 hlv hq hq2 he hd)
            simp (disch := first | assumption | omega) only [st_X8_differs_0, st_X8_differs_1, ↓if_pos, ↓if_neg, if_pos, if_neg, ↓reduceIte, true_and, and_true, false_and, and_false, true_or, or_true, false_or, or_false, w32_id, Kv, Kn, fup_s, fup_a, fup_k, fup_fup, Int.reduceAdd, Int.reduceSub, Int.reduceMul, Int.reduceNeg, he, hpd, hpm, S_ov (b := b1) (m := m) (t := q / 7) hW hm.1 (show m < 4 by omega) (show 0 ≤ q / 7 by omega) (show q / 7 ≤ 6 by omega) hb1', S_ov (b := b2) (m := o) (t := q % 7) hW ho.1 (show o < 4 by omega) (show 0 ≤ q % 7 by omega) (show q % 7 ≤ 6 by omega) hb2']
            exact hKK
        · have hKK := hK2 _ H2 _ ⟨x5, x6, rfl, rfl, hf2, hX2, x_nextq hC2 (fun z => absurd z he), hB2⟩
          simp (disch := first | assumption | omega) only [st_X8_differs_0, st_X8_differs_1, ↓if_pos, ↓if_neg, if_pos, if_neg, ↓reduceIte, true_and, and_true, false_and, and_false, true_or, or_true, false_or, or_false, w32_id, Kv, Kn, fup_s, fup_a, fup_k, fup_fup, Int.reduceAdd, Int.reduceSub, Int.reduceMul, Int.reduceNeg]
          exact hKK
      · rintro L H2 R2 ⟨x5, x6, rfl, rfl, hf2, hX2, hC2, hB2⟩
        have hKK := hK _ H2 _ ⟨some (pI 49), x5, x6, rfl, rfl, hf2, hX2, x_nextl hC2, hB2⟩
        rw [sh_X8_differs_66]
        simp (disch := first | assumption | omega) only [st_X8_differs_0, st_X8_differs_1, ↓if_pos, ↓if_neg, if_pos, if_neg, ↓reduceIte, true_and, and_true, false_and, and_false, true_or, or_true, false_or, or_false, w32_id, Kv, Kn, fup_s, fup_a, fup_k, fup_fup, Int.reduceAdd, Int.reduceSub, Int.reduceMul, Int.reduceNeg]
        exact hKK
    · rintro L H R ⟨x4, x5, x6, rfl, rfl, hf, hX, hC, hB⟩
      have hKK := K H (-1) hf (x_none hT hm ho hX hC)
      rw [sh_X8_differs_57]
      simp (disch := first | assumption | omega) only [st_X8_differs_0, st_X8_differs_1, ↓if_pos, ↓if_neg, if_pos, if_neg, ↓reduceIte, true_and, and_true, false_and, and_false, true_or, or_true, false_or, or_false, w32_id, Kv, Kn, fup_s, fup_a, fup_k, fup_fup, Int.reduceAdd, Int.reduceSub, Int.reduceMul, Int.reduceNeg]
      exact hKK
    · rw [e191 c c1 c2]
      by_cases h8 : c = 8
      · rw [if_pos h8]; exact Or.inr ⟨Int.le_refl _, h8⟩
      · rw [if_neg h8]; exact Or.inl rfl
    · rw [e191 c c1 c2] at ee
      split at ee <;> omega
    · rw [e191 c c1 c2] at c3
      split at c3 <;> omega
    · rw [e191 c c1 c2]
      split <;> omega
theorem Q_23 {i : Int} {l5 l6 : Option PV} {nx : Nat} {h r : PF} {s : Int → Int} {Q : PO → PY → Nat → PC → Prop} (hI : Inv h r) (hi : 0 ≤ i) (hi2 : i + 5 < s (-1)) (hi3 : s (-1) ≤ 4000) (H : ∀ (a b : Option PV) (nx' : Nat) (h' r' : PF), Inv h' r' → nx' ≤ nx + 1 → Wp 257 2079 [some (pR (-1000)), some (pR 1), some (pR 178), some (pR 195), some (pI i), a, b, none] [] LY nx' (h', r', s) Q) : Wp 257 1427 [some (pR (-1000)), some (pR 1), some (pR 178), some (pR 195), some (pI i), l5, l6, none] [] LY nx (h, r, s) Q := by
  obtain ⟨hW, hp0, hp1, hp2, hpk, hP, hS0, hk144, hT, hN, hR, hS, ep0, ep1, ep3, ep4, hT0, hT1⟩ := beg_of hI
  have k153 : kd LY 153 = (1, 80) := by decide +kernel
  have k152 : kd LY 152 = (1, 6) := by decide +kernel
  have k151 : kd LY 151 = (1, 60) := by decide +kernel
  obtain ⟨⟨hs0, hsk⟩, ⟨hsr0, hsp0, hsd0⟩, ⟨hsr1, hsp1, hsd1⟩, ⟨hsr2, hsp2, hsd2⟩, ⟨hsr3, hsp3, hsd3⟩, ⟨hsr4, hsp4, hsd4⟩, ⟨hsr5, hsp5, hsd5⟩, ⟨hsr6, hsp6, hsd6⟩, ⟨hsr7, hsp7, hsd7⟩, ⟨hsr12, hsp12, hsd12⟩⟩ := stok_144 hW
  by_cases hm : s (i + 1) < 0 ∨ h 179 1 ≤ s (i + 1)
  · simp (disch := first | assumption | omega | (simp (disch := omega) only [fup_s, fup_k, fup_a, fup_r, frow_s, frow_r, frow_sk, frow_rk, fcpy_r, frng_r]; assumption) | (simp (disch := omega) only [fup_s, fup_k, fup_a, fup_r, frow_s, frow_r, frow_sk, frow_rk, fcpy_r, frng_r]; omega)) only [st_law_23, st_L_differs, st_X7_differs, st_X8_differs_0, st_X8_differs_1, ↓if_pos, ↓if_neg, if_pos, if_neg, ↓reduceIte, true_and, and_true, false_and, and_false, true_or, or_true, false_or, or_false, w32_id, Kv, Kn, fup_s, fup_a, fup_k, fup_fup, Int.reduceAdd, Int.reduceSub, Int.reduceMul, Int.reduceNeg, S_thrown, fup_s, fup_k, fup_a, fup_r, frow_s, frow_r, frow_sk, frow_rk, fcpy_r, frng_r, plcmp_eq, S_checkMachine, S_noMachine, S_no, kh_L_differs_1, kx_X7_differs]
    all_goals ((try split) <;> exact H _ _ _ _ _ (inv_same hI ⟨fun a ha => by unfold Core at ha; simp (disch := omega) only [fup_r, frow_r], by simp (disch := omega) only [fup_k, fup_a, frow_rk], by simp (disch := omega) only [fup_k, fup_a, frow_rk], by simp (disch := omega) only [fup_k, fup_a, frow_rk]⟩) (by omega))
  have hm1 : 0 ≤ s (i + 1) ∧ s (i + 1) < h 179 1 := by omega
  by_cases ho : s (i + 2) < 0 ∨ h 179 1 ≤ s (i + 2)
  · simp (disch := first | assumption | omega | (simp (disch := omega) only [fup_s, fup_k, fup_a, fup_r, frow_s, frow_r, frow_sk, frow_rk, fcpy_r, frng_r]; assumption) | (simp (disch := omega) only [fup_s, fup_k, fup_a, fup_r, frow_s, frow_r, frow_sk, frow_rk, fcpy_r, frng_r]; omega)) only [st_law_23, st_L_differs, st_X7_differs, st_X8_differs_0, st_X8_differs_1, ↓if_pos, ↓if_neg, if_pos, if_neg, ↓reduceIte, true_and, and_true, false_and, and_false, true_or, or_true, false_or, or_false, w32_id, Kv, Kn, fup_s, fup_a, fup_k, fup_fup, Int.reduceAdd, Int.reduceSub, Int.reduceMul, Int.reduceNeg, S_thrown, fup_s, fup_k, fup_a, fup_r, frow_s, frow_r, frow_sk, frow_rk, fcpy_r, frng_r, plcmp_eq, S_checkMachine, S_noMachine, S_no, kh_L_differs_1, kx_X7_differs]
    all_goals ((try split) <;> exact H _ _ _ _ _ (inv_same hI ⟨fun a ha => by unfold Core at ha; simp (disch := omega) only [fup_r, frow_r], by simp (disch := omega) only [fup_k, fup_a, frow_rk], by simp (disch := omega) only [fup_k, fup_a, frow_rk], by simp (disch := omega) only [fup_k, fup_a, frow_rk]⟩) (by omega))
  have ho1 : 0 ≤ s (i + 2) ∧ s (i + 2) < h 179 1 := by omega
  have hp20 : 20 < r 1 6 := by omega
  by_cases hmo : s (i + 1) = s (i + 2)
  · simp (disch := first | assumption | omega | (simp (disch := omega) only [fup_s, fup_k, fup_a, fup_r, frow_s, frow_r, frow_sk, frow_rk, fcpy_r, frng_r]; assumption) | (simp (disch := omega) only [fup_s, fup_k, fup_a, fup_r, frow_s, frow_r, frow_sk, frow_rk, fcpy_r, frng_r]; omega)) only [st_law_23, st_L_differs, st_X7_differs, st_X8_differs_0, st_X8_differs_1, ↓if_pos, ↓if_neg, if_pos, if_neg, ↓reduceIte, true_and, and_true, false_and, and_false, true_or, or_true, false_or, or_false, w32_id, Kv, Kn, fup_s, fup_a, fup_k, fup_fup, Int.reduceAdd, Int.reduceSub, Int.reduceMul, Int.reduceNeg, S_thrown, fup_s, fup_k, fup_a, fup_r, frow_s, frow_r, frow_sk, frow_rk, fcpy_r, frng_r, plcmp_eq, S_checkMachine, S_noMachine, S_no]
    refine M_differs hW (by simp (disch := omega) only [fup_s, fup_k, fup_a, fup_r, frow_s, frow_r, frow_sk, frow_rk, fcpy_r, frng_r]; exact hT) (by simp (disch := omega) only [fup_s, fup_k, fup_a, fup_r, frow_s, frow_r, frow_sk, frow_rk, fcpy_r, frng_r]; exact hm1) (by simp (disch := omega) only [fup_s, fup_k, fup_a, fup_r, frow_s, frow_r, frow_sk, frow_rk, fcpy_r, frng_r]; exact ho1) (fun h3 v f3 hv => ?_)
    simp (disch := omega) only [fup_s, fup_k, fup_a, fup_r, frow_s, frow_r, frow_sk, frow_rk, fcpy_r, frng_r] at f3 hv
    have e : v = -1 := by
      rw [← hmo] at hv
      exact rsp_eq hv (rsp_same hT hm1)
    subst e
    have hf2 : ∀ a : Int, a < 15 ∨ 20 < a → h a = h a := fun _ _ => rfl
    have e178 : h 178 = h 178 := rfl
    have hF2 := hI.2.2.2.2.2.2.2.2
    have e1780 : h3 178 0 = 0 := by rw [f3 178 (by omega)]; simp (disch := omega) only [fup_s, fup_k, fup_a, fup_r, frow_s, frow_r, frow_sk, frow_rk, fcpy_r, frng_r]
    have e1950 : h3 195 0 = -1 := by rw [f3 195 (by omega)]; simp (disch := omega) only [fup_s, fup_k, fup_a, fup_r, frow_s, frow_r, frow_sk, frow_rk, fcpy_r, frng_r]
    have hinv : Inv h3 r := inv_srch hI hI.1 rfl (fun a g1 g2 g3 g4 => by rw [f3 a (by omega)]; simp (disch := omega) only [fup_s, fup_k, fup_a, fup_r, frow_s, frow_r, frow_sk, frow_rk, fcpy_r, frng_r]) (by rw [f3 178 (by omega)]; simp (disch := omega) only [fup_s, fup_k, fup_a, fup_r, frow_s, frow_r, frow_sk, frow_rk, fcpy_r, frng_r]) (by rw [f3 178 (by omega)]; simp (disch := omega) only [fup_s, fup_k, fup_a, fup_r, frow_s, frow_r, frow_sk, frow_rk, fcpy_r, frng_r]) (by rw [f3 178 (by omega)]; simp (disch := omega) only [fup_s, fup_k, fup_a, fup_r, frow_s, frow_r, frow_sk, frow_rk, fcpy_r, frng_r]) (search_of hF2 (by rw [f3 15 (by omega)]; simp (disch := omega) only [fup_s, fup_k, fup_a, fup_r, frow_s, frow_r, frow_sk, frow_rk, fcpy_r, frng_r]) (by rw [f3 16 (by omega)]; simp (disch := omega) only [fup_s, fup_k, fup_a, fup_r, frow_s, frow_r, frow_sk, frow_rk, fcpy_r, frng_r]) (by rw [f3 17 (by omega)]; simp (disch := omega) only [fup_s, fup_k, fup_a, fup_r, frow_s, frow_r, frow_sk, frow_rk, fcpy_r, frng_r]))
    simp (disch := first | assumption | omega | (simp (disch := omega) only [fup_s, fup_k, fup_a, fup_r, frow_s, frow_r, frow_sk, frow_rk, fcpy_r, frng_r]; assumption) | (simp (disch := omega) only [fup_s, fup_k, fup_a, fup_r, frow_s, frow_r, frow_sk, frow_rk, fcpy_r, frng_r]; omega)) only [st_law_23, st_L_differs, st_X8_differs_0, st_X8_differs_1, ↓if_pos, ↓if_neg, if_pos, if_neg, ↓reduceIte, true_and, and_true, false_and, and_false, true_or, or_true, false_or, or_false, w32_id, Kv, Kn, fup_s, fup_a, fup_k, fup_fup, Int.reduceAdd, Int.reduceSub, Int.reduceMul, Int.reduceNeg, S_thrown, fup_s, fup_k, fup_a, fup_r, frow_s, frow_r, frow_sk, frow_rk, fcpy_r, frng_r, plcmp_eq, e1780, e1950]
    exact H _ _ _ _ _ hinv (by omega)
  · have htw : por (pshl 1 (s (i + 1))) (pshl 1 (s (i + 2))) = two (s (i + 1)) (s (i + 2)) := rfl
    simp (disch := first | assumption | omega | (simp (disch := omega) only [fup_s, fup_k, fup_a, fup_r, frow_s, frow_r, frow_sk, frow_rk, fcpy_r, frng_r]; assumption) | (simp (disch := omega) only [fup_s, fup_k, fup_a, fup_r, frow_s, frow_r, frow_sk, frow_rk, fcpy_r, frng_r]; omega)) only [st_law_23, st_L_differs, st_X7_differs, ↓if_pos, ↓if_neg, if_pos, if_neg, ↓reduceIte, true_and, and_true, false_and, and_false, true_or, or_true, false_or, or_false, w32_id, Kv, Kn, fup_s, fup_a, fup_k, fup_fup, Int.reduceAdd, Int.reduceSub, Int.reduceMul, Int.reduceNeg, S_thrown, fup_s, fup_k, fup_a, fup_r, frow_s, frow_r, frow_sk, frow_rk, fcpy_r, frng_r, plcmp_eq, S_checkMachine, S_noMachine, htw]
    refine C_lengthApart hW hP hp20 hT hR (search_of hI.2.2.2.2.2.2.2.2 (by simp (disch := omega) only [fup_s, fup_k, fup_a, fup_r, frow_s, frow_r, frow_sk, frow_rk, fcpy_r, frng_r]) (by simp (disch := omega) only [fup_s, fup_k, fup_a, fup_r, frow_s, frow_r, frow_sk, frow_rk, fcpy_r, frng_r]) (by simp (disch := omega) only [fup_s, fup_k, fup_a, fup_r, frow_s, frow_r, frow_sk, frow_rk, fcpy_r, frng_r])) hm1 ho1 hmo (fun h2 v hf2 hF2 hv hv1 hv2 => ?_)
    (try simp (disch := omega) only [fup_s, fup_k, fup_a, fup_r, frow_s, frow_r, frow_sk, frow_rk, fcpy_r, frng_r] at hf2)
    have e178 := hf2 178 (by omega)
    have e179 := hf2 179 (by omega)
    have e1791 : h2 179 1 = h 179 1 := by rw [e179]
    simp (disch := first | assumption | omega | (simp (disch := omega) only [fup_s, fup_k, fup_a, fup_r, frow_s, frow_r, frow_sk, frow_rk, fcpy_r, frng_r]; assumption) | (simp (disch := omega) only [fup_s, fup_k, fup_a, fup_r, frow_s, frow_r, frow_sk, frow_rk, fcpy_r, frng_r]; omega)) only [st_law_23, st_L_differs, st_X7_differs, st_X8_differs_0, st_X8_differs_1, ↓if_pos, ↓if_neg, if_pos, if_neg, ↓reduceIte, true_and, and_true, false_and, and_false, true_or, or_true, false_or, or_false, w32_id, Kv, Kn, fup_s, fup_a, fup_k, fup_fup, Int.reduceAdd, Int.reduceSub, Int.reduceMul, Int.reduceNeg, S_thrown, fup_s, fup_k, fup_a, fup_r, frow_s, frow_r, frow_sk, frow_rk, fcpy_r, frng_r, plcmp_eq, S_checkMachine, S_noMachine, S_no, e179]
    refine M_differs hW (by simp (disch := omega) only [fup_s, fup_k, fup_a, fup_r, frow_s, frow_r, frow_sk, frow_rk, fcpy_r, frng_r, e179]; exact hT) (by simp (disch := omega) only [fup_s, fup_k, fup_a, fup_r, frow_s, frow_r, frow_sk, frow_rk, fcpy_r, frng_r, e179]; exact hm1) (by simp (disch := omega) only [fup_s, fup_k, fup_a, fup_r, frow_s, frow_r, frow_sk, frow_rk, fcpy_r, frng_r, e179]; exact ho1) (fun h3 v' f3 hv' => ?_)
    simp (disch := omega) only [fup_s, fup_k, fup_a, fup_r, frow_s, frow_r, frow_sk, frow_rk, fcpy_r, frng_r, e179] at f3 hv'
    have e : v' = v := rsp_eq hv' hv
    subst e
    have e1780 : h3 178 0 = 0 := by rw [f3 178 (by omega)]; simp (disch := omega) only [fup_s, fup_k, fup_a, fup_r, frow_s, frow_r, frow_sk, frow_rk, fcpy_r, frng_r]
    have e1950 : h3 195 0 = v' := by rw [f3 195 (by omega)]; simp (disch := omega) only [fup_s, fup_k, fup_a, fup_r, frow_s, frow_r, frow_sk, frow_rk, fcpy_r, frng_r]
    have hinv : Inv h3 r := inv_srch hI hI.1 rfl (fun a g1 g2 g3 g4 => by rw [f3 a (by omega)]; simp (disch := omega) only [fup_s, fup_k, fup_a, fup_r, frow_s, frow_r, frow_sk, frow_rk, fcpy_r, frng_r]; exact hf2 a (by omega)) (by rw [f3 178 (by omega)]; simp (disch := omega) only [fup_s, fup_k, fup_a, fup_r, frow_s, frow_r, frow_sk, frow_rk, fcpy_r, frng_r]; rw [e178]) (by rw [f3 178 (by omega)]; simp (disch := omega) only [fup_s, fup_k, fup_a, fup_r, frow_s, frow_r, frow_sk, frow_rk, fcpy_r, frng_r]; rw [e178]) (by rw [f3 178 (by omega)]; simp (disch := omega) only [fup_s, fup_k, fup_a, fup_r, frow_s, frow_r, frow_sk, frow_rk, fcpy_r, frng_r]; rw [e178]) (search_of hF2 (by rw [f3 15 (by omega)]; simp (disch := omega) only [fup_s, fup_k, fup_a, fup_r, frow_s, frow_r, frow_sk, frow_rk, fcpy_r, frng_r]) (by rw [f3 16 (by omega)]; simp (disch := omega) only [fup_s, fup_k, fup_a, fup_r, frow_s, frow_r, frow_sk, frow_rk, fcpy_r, frng_r]) (by rw [f3 17 (by omega)]; simp (disch := omega) only [fup_s, fup_k, fup_a, fup_r, frow_s, frow_r, frow_sk, frow_rk, fcpy_r, frng_r]))
    simp (disch := first | assumption | omega | (simp (disch := omega) only [fup_s, fup_k, fup_a, fup_r, frow_s, frow_r, frow_sk, frow_rk, fcpy_r, frng_r]; assumption) | (simp (disch := omega) only [fup_s, fup_k, fup_a, fup_r, frow_s, frow_r, frow_sk, frow_rk, fcpy_r, frng_r]; omega)) only [st_law_23, st_L_differs, st_X8_differs_0, st_X8_differs_1, ↓if_pos, ↓if_neg, if_pos, if_neg, ↓reduceIte, true_and, and_true, false_and, and_false, true_or, or_true, false_or, or_false, w32_id, Kv, Kn, fup_s, fup_a, fup_k, fup_fup, Int.reduceAdd, Int.reduceSub, Int.reduceMul, Int.reduceNeg, S_thrown, fup_s, fup_k, fup_a, fup_r, frow_s, frow_r, frow_sk, frow_rk, fcpy_r, frng_r, plcmp_eq, e1780, e1950]
    exact H _ _ _ _ _ hinv (by omega)
