/-- the state + 1 behind n letters of the word, 0 beyond its end -/
def gWkF (T N : Int → Int) (m k t : Int) : Int := if t = 0 then 0 else gGo T m (t - 1) (N (4 + k)) + 1
def gWk (T N : Int → Int) (m : Int) (n : Nat) : Int := upto (gWkF T N m) n 1
theorem gWk_rng {T N : Int → Int} {m : Int} (hT : TWf T) (hN : NWf T N) (hm : 0 ≤ m) (hm2 : m < T 1) : ∀ n : Nat, (n : Int) ≤ N 3 → 0 ≤ gWk T N m n ∧ gWk T N m n ≤ gO T m 2
  | 0, _ => by have := (hT.2.2.2.2.2 m hm hm2).1; show (0 : Int) ≤ 1 ∧ (1 : Int) ≤ gO T m 2; omega
  | n + 1, hn => by
    have ih := gWk_rng hT hN hm hm2 n (by omega)
    have hTm := (hT.2.2.2.2.2 m hm hm2).1
    have hw := hN.2.1 n (by omega) (by omega)
    have hT0 := hT.1
    show 0 ≤ gWkF T N m n (gWk T N m n) ∧ gWkF T N m n (gWk T N m n) ≤ gO T m 2
    unfold gWkF
    split
    · omega
    · have hg := gGo_lt hT hm hm2 (show 0 ≤ gWk T N m n - 1 by omega) (show gWk T N m n - 1 < 6 by omega) hw.1 (show N (4 + n) < 4 by omega)
      omega
theorem gWk_dead {T N : Int → Int} {m : Int} {n : Nat} (h : gWk T N m n = 0) : ∀ i : Nat, gWk T N m (n + i) = 0
  | 0 => h
  | i + 1 => by
    have ih := gWk_dead h i
    show gWkF T N m ((n + i : Nat) : Int) (gWk T N m (n + i)) = 0
    rw [ih]
    rfl
theorem C_accepted {p b m d : Int} {T N : Int → Int} {nx : Nat} {h r : PF} {s : Int → Int} {Q : PO → PY → Nat → PC → Prop} (hP : PlOk r p) (hS0 : StOk r b) (hT : TWf T) (hR : PlanRel h p T) (hS : StRel h b T N) (hN : NWf T N) (hm : 0 ≤ m) (hm2 : m < T 1) (hd : d = 0 ∨ d = 1) (hde : d = 1 ↔ 0 < gWk T N m (N 3).toNat ∧ gS T m (gWk T N m (N 3).toNat - 1) 0 = 1) (K : Q (Sum.inl (some (pI d))) LY nx (h, r, s)) : Wp 59 0 [some (pR b), some (pR p), some (pI m), none, none] [] LY nx (h, r, s) Q := by
  have hT0 := hT.1
  have hT1 := hT.2.1
  have hTm := (hT.2.2.2.2.2 m hm hm2).1
  have hN3 := hN.1
  have e8 := hS.1.1
  have hP0 := hP.1.1
  have hPk := hP.1.2
  have hS00 := hS0
  obtain ⟨⟨hs0, hsk⟩, ⟨hsr0, hsp0, hsd0⟩, ⟨hsr1, hsp1, hsd1⟩, ⟨hsr2, hsp2, hsd2⟩, ⟨hsr3, hsp3, hsd3⟩, ⟨hsr4, hsp4, hsd4⟩, ⟨hsr5, hsp5, hsd5⟩, ⟨hsr6, hsp6, hsd6⟩, ⟨hsr7, hsp7, hsd7⟩, ⟨hsr12, hsp12, hsd12⟩⟩ := hS00
  have fin : ∀ t i, t = gWk T N m (N 3).toNat - 1 → (i = N 3 ∨ t = -1) → i ≤ N 3 → 0 ≤ i → Wp 59 5 [some (pR b), some (pR p), some (pI m), some (pI t), some (pI i)] [] LY nx (h, r, s) Q := by
    intro t i ht hor hi hi0
    have hr := gWk_rng hT hN hm hm2 (N 3).toNat (by omega)
    rw [sh_X5_isWordAccepted_5]
    by_cases hz : t = -1
    · have hd0 : d = 0 := by
        rcases hd with z | z
        · exact z
        · have := (hde.mp z).1; omega
      rw [hd0] at K
      by_cases hi3 : i < N 3
      · skip
        simp (disch := first | assumption | omega) only [st_X5_isWordAccepted, ↓if_pos, ↓if_neg, if_pos, if_neg, ↓reduceIte, true_and, and_true, false_and, and_false, true_or, or_true, false_or, or_false, w32_id, Kv, Kn, fup_s, fup_a, fup_k, fup_fup, Int.reduceAdd, Int.reduceSub, Int.reduceMul, Int.reduceNeg, e8]
        exact K
      · skip
        simp (disch := first | assumption | omega) only [st_X5_isWordAccepted, ↓if_pos, ↓if_neg, if_pos, if_neg, ↓reduceIte, true_and, and_true, false_and, and_false, true_or, or_true, false_or, or_false, w32_id, Kv, Kn, fup_s, fup_a, fup_k, fup_fup, Int.reduceAdd, Int.reduceSub, Int.reduceMul, Int.reduceNeg, e8]
        exact K
    · have hi3 : i = N 3 := by omega
      by_cases hc : gS T m t 0 = 1
      · rw [hde.mpr ⟨by omega, by rw [← ht]; exact hc⟩] at K
        simp (disch := first | assumption | omega) only [st_X5_isWordAccepted, ↓if_pos, ↓if_neg, if_pos, if_neg, ↓reduceIte, true_and, and_true, false_and, and_false, true_or, or_true, false_or, or_false, w32_id, Kv, Kn, fup_s, fup_a, fup_k, fup_fup, Int.reduceAdd, Int.reduceSub, Int.reduceMul, Int.reduceNeg, e8, D_isGoal hP hT hR, if_pos hc]
        exact K
      · have hd0 : d = 0 := by
          rcases hd with z | z
          · exact z
          · have := (hde.mp z).2; rw [← ht] at this; exact absurd this hc
        rw [hd0] at K
        simp (disch := first | assumption | omega) only [st_X5_isWordAccepted, ↓if_pos, ↓if_neg, if_pos, if_neg, ↓reduceIte, true_and, and_true, false_and, and_false, true_or, or_true, false_or, or_false, w32_id, Kv, Kn, fup_s, fup_a, fup_k, fup_fup, Int.reduceAdd, Int.reduceSub, Int.reduceMul, Int.reduceNeg, e8, D_isGoal hP hT hR, if_neg hc]
        exact K
  simp (disch := first | assumption | omega) only [st_X5_isWordAccepted, ↓if_pos, ↓if_neg, if_pos, if_neg, ↓reduceIte, true_and, and_true, false_and, and_false, true_or, or_true, false_or, or_false, w32_id, Kv, Kn, fup_s, fup_a, fup_k, fup_fup, Int.reduceAdd, Int.reduceSub, Int.reduceMul, Int.reduceNeg]
  refine loopL (Inv := fun i L => L = [some (pR b), some (pR p), some (pI m), some (pI (gWk T N m i.toNat - 1)), some (pI i)]) (a := 0) (n := N 3) (by omega) ?_ ?_ _ rfl
  · rintro i L hi hi2 rfl hK
    have hr := gWk_rng hT hN hm hm2 i.toNat (by omega)
    by_cases hz : gWk T N m i.toNat = 0
    · have hdd := gWk_dead hz ((N 3).toNat - i.toNat)
      rw [show i.toNat + ((N 3).toNat - i.toNat) = (N 3).toNat from by omega] at hdd
      exact fin _ i (by rw [hz, hdd]) (Or.inr (by omega)) (by omega) hi
    · have hw := hN.2.1 i hi hi2
      have ew := hS.2.1 i hi hi2
      have e1 : gWk T N m (i + 1).toNat = gGo T m (gWk T N m i.toNat - 1) (N (4 + i)) + 1 := by
        have : gWk T N m (i + 1).toNat = gWkF T N m i (gWk T N m i.toNat) := upto_s hi
        rw [this]
        unfold gWkF
        rw [if_neg hz]
      have hK2 := hK _ rfl
      rw [e1, show gGo T m (gWk T N m i.toNat - 1) (N (4 + i)) + 1 - 1 = gGo T m (gWk T N m i.toNat - 1) (N (4 + i)) from by omega] at hK2
      rw [sh_X5_isWordAccepted_5]
      simp (disch := first | assumption | omega) only [st_X5_isWordAccepted, ↓if_pos, ↓if_neg, if_pos, if_neg, ↓reduceIte, true_and, and_true, false_and, and_false, true_or, or_true, false_or, or_false, w32_id, Kv, Kn, fup_s, fup_a, fup_k, fup_fup, Int.reduceAdd, Int.reduceSub, Int.reduceMul, Int.reduceNeg, e8, ew, D_target hP hT hR]
      exact hK2
  · rintro L rfl
    exact fin _ (N 3) rfl (Or.inl rfl) (by omega) (by omega)
