/-- all machines of the first n stand in a state that accepts -/
def gAg (T N : Int → Int) (n : Int) : Prop := ∀ m, 0 ≤ m → m < n → gS T m (gOf N m 0) 0 = 1
theorem C_agreed {p b d : Int} {T N : Int → Int} {nx : Nat} {h r : PF} {s : Int → Int} {Q : PO → PY → Nat → PC → Prop} (hP : PlOk r p) (hS0 : StOk r b) (hT : TWf T) (hR : PlanRel h p T) (hS : StRel h b T N) (hM : MWf T N) (hd : d = 0 ∨ d = 1) (hde : d = 1 ↔ 0 < T 1 ∧ gAg T N (T 1)) (K : Q (Sum.inl (some (pI d))) LY nx (h, r, s)) : Wp 60 0 [some (pR b), some (pR p), none] [] LY nx (h, r, s) Q := by
  have hT1 := hT.2.1
  have ep1 := hR.1.2.1
  have hP0 := hP.1.1
  have hPk := hP.1.2
  have hS00 := hS0
  obtain ⟨⟨hs0, hsk⟩, ⟨hsr0, hsp0, hsd0⟩, ⟨hsr1, hsp1, hsd1⟩, ⟨hsr2, hsp2, hsd2⟩, ⟨hsr3, hsp3, hsd3⟩, ⟨hsr4, hsp4, hsd4⟩, ⟨hsr5, hsp5, hsd5⟩, ⟨hsr6, hsp6, hsd6⟩, ⟨hsr7, hsp7, hsd7⟩, ⟨hsr12, hsp12, hsd12⟩⟩ := hS00
  simp (disch := first | assumption | omega) only [st_X5_isEveryGoalReached, ↓if_pos, ↓if_neg, if_pos, if_neg, ↓reduceIte, true_and, and_true, false_and, and_false, true_or, or_true, false_or, or_false, w32_id, Kv, Kn, fup_s, fup_a, fup_k, fup_fup, Int.reduceAdd, Int.reduceSub, Int.reduceMul, Int.reduceNeg]
  refine loopL (Inv := fun i L => L = [some (pR b), some (pR p), some (pI i)] ∧ gAg T N i) (a := 0) (n := T 1) (by omega) ?_ ?_ _ ⟨rfl, fun m h1 h2 => by omega⟩
  · rintro i L hi hi2 ⟨rfl, hag⟩ hK
    have hMi := hM.1 i hi hi2
    have hTm := (hT.2.2.2.2.2 i hi hi2).1
    have e0 := (st_m hS hi hi2).1
    rw [sh_X5_isEveryGoalReached_2]
    by_cases hc : gS T i (gOf N i 0) 0 = 1
    · skip
      simp (disch := first | assumption | omega) only [st_X5_isEveryGoalReached, ↓if_pos, ↓if_neg, if_pos, if_neg, ↓reduceIte, true_and, and_true, false_and, and_false, true_or, or_true, false_or, or_false, w32_id, Kv, Kn, fup_s, fup_a, fup_k, fup_fup, Int.reduceAdd, Int.reduceSub, Int.reduceMul, Int.reduceNeg, ep1, e0, D_isGoal hP hT hR, if_pos hc]
      refine hK _ ⟨rfl, fun m h1 h2 => ?_⟩
      by_cases hmi : m = i
      · rw [hmi]; exact hc
      · exact hag m h1 (by omega)
    · have hd0 : d = 0 := by
        rcases hd with z | z
        · exact z
        · exact absurd ((hde.mp z).2 i hi hi2) hc
      rw [hd0] at K
      simp (disch := first | assumption | omega) only [st_X5_isEveryGoalReached, ↓if_pos, ↓if_neg, if_pos, if_neg, ↓reduceIte, true_and, and_true, false_and, and_false, true_or, or_true, false_or, or_false, w32_id, Kv, Kn, fup_s, fup_a, fup_k, fup_fup, Int.reduceAdd, Int.reduceSub, Int.reduceMul, Int.reduceNeg, ep1, e0, D_isGoal hP hT hR, if_neg hc]
      exact K
  · rintro L ⟨rfl, hag⟩
    rw [sh_X5_isEveryGoalReached_2]
    by_cases hc : 0 < T 1
    · rw [hde.mpr ⟨hc, hag⟩] at K
      simp (disch := first | assumption | omega) only [st_X5_isEveryGoalReached, ↓if_pos, ↓if_neg, if_pos, if_neg, ↓reduceIte, true_and, and_true, false_and, and_false, true_or, or_true, false_or, or_false, w32_id, Kv, Kn, fup_s, fup_a, fup_k, fup_fup, Int.reduceAdd, Int.reduceSub, Int.reduceMul, Int.reduceNeg, ep1]
      exact K
    · have hd0 : d = 0 := by
        rcases hd with z | z
        · exact z
        · exact absurd (hde.mp z).1 hc
      rw [hd0] at K
      simp (disch := first | assumption | omega) only [st_X5_isEveryGoalReached, ↓if_pos, ↓if_neg, if_pos, if_neg, ↓reduceIte, true_and, and_true, false_and, and_false, true_or, or_true, false_or, or_false, w32_id, Kv, Kn, fup_s, fup_a, fup_k, fup_fup, Int.reduceAdd, Int.reduceSub, Int.reduceMul, Int.reduceNeg, ep1]
      exact K
theorem F_agreed {d : Int} {nx : Nat} {h r : PF} {s : Int → Int} {Q : PO → PY → Nat → PC → Prop} (hW : WFr r) (hT : TWf (h 179)) (hM : MWf (h 179) (h 180)) (hd : d = 0 ∨ d = 1) (hde : d = 1 ↔ 0 < h 179 1 ∧ gAg (h 179) (h 180) (h 179 1)) (K : Q (Sum.inl (some (pI d))) LY nx (fup h 178 0 0, r, s)) : Wp 214 0 [some (pR 178), none, none] [] LY nx (h, r, s) Q := by
  have hT1 := hT.2.1
  have main : ∀ c, (c = 0 ∨ c = 1) → (c = 1 ↔ 0 < h 179 1) → Wp 214 22 [some (pR 178), some (pI c), some (pI 0)] [] LY nx (fup h 178 0 0, r, s) Q := by
    intro c hc01 hc1
    refine loopL (Inv := fun i L => ∃ e, L = [some (pR 178), some (pI e), some (pI i)] ∧ (e = 0 ∨ e = 1) ∧ (e = 1 ↔ 0 < h 179 1 ∧ gAg (h 179) (h 180) i)) (a := 0) (n := h 179 1) (by omega) ?_ ?_ _ ⟨c, rfl, hc01, by rw [hc1]; exact ⟨fun z => ⟨z, fun m h1 h2 => by omega⟩, fun z => z.1⟩⟩
    · rintro i L hi hi2 ⟨e, rfl, he, hee⟩ hK
      have hMi := hM.1 i hi hi2
      have hTm := (hT.2.2.2.2.2 i hi hi2).1
      have hKK : ∀ e', (e' = 0 ∨ e' = 1) → (e' = 1 ↔ e = 1 ∧ gS (h 179) i (gOf (h 180) i 0) 0 = 1) → Wp 214 22 [some (pR 178), some (pI e'), some (pI (i + 1))] [] LY nx (fup h 178 0 0, r, s) Q := by
        intro e' h1 h2
        refine hK _ ⟨e', rfl, h1, ?_⟩
        rw [h2, hee]
        constructor
        · rintro ⟨⟨z1, z2⟩, z3⟩
          refine ⟨z1, fun m h3 h4 => ?_⟩
          by_cases hmi : m = i
          · rw [hmi]; exact z3
          · exact z2 m h3 (by omega)
        · rintro ⟨z1, z2⟩
          exact ⟨⟨z1, fun m h3 h4 => z2 m h3 (by omega)⟩, z2 i hi (by omega)⟩
      clear hK
      rw [sh_X8_isAgreed_22]
      by_cases hc : gS (h 179) i (gOf (h 180) i 0) 0 = 1
      · rcases he with he | he
        · subst he
          simp (disch := first | assumption | omega) only [st_X8_isAgreed, ↓if_pos, ↓if_neg, if_pos, if_neg, ↓reduceIte, true_and, and_true, false_and, and_false, true_or, or_true, false_or, or_false, w32_id, Kv, Kn, fup_s, fup_a, fup_k, fup_fup, Int.reduceAdd, Int.reduceSub, Int.reduceMul, Int.reduceNeg, fup_r, S_of, S_isEnd, if_pos hc]
          exact hKK _ (Or.inl rfl) ⟨fun z => absurd z (by decide), fun z => absurd z.1 (by decide)⟩
        · subst he
          simp (disch := first | assumption | omega | (simp (disch := omega) only [fup_s, fup_k, fup_a, fup_r, frow_s, frow_r, frow_sk, frow_rk, fcpy_r, frng_r]; assumption) | (simp (disch := omega) only [fup_s, fup_k, fup_a, fup_r, frow_s, frow_r, frow_sk, frow_rk, fcpy_r, frng_r]; omega)) only [st_law_2, st_X8_isAgreed, ↓if_pos, ↓if_neg, if_pos, if_neg, ↓reduceIte, true_and, and_true, false_and, and_false, true_or, or_true, false_or, or_false, w32_id, Kv, Kn, fup_s, fup_a, fup_k, fup_fup, Int.reduceAdd, Int.reduceSub, Int.reduceMul, Int.reduceNeg, S_thrown, fup_s, fup_k, fup_a, fup_r, frow_s, frow_r, frow_sk, frow_rk, fcpy_r, frng_r, plcmp_eq, S_of, S_isEnd, if_pos hc]
          exact hKK _ (Or.inr rfl) ⟨fun _ => ⟨rfl, hc⟩, fun _ => rfl⟩
      · rcases he with he | he
        · subst he
          simp (disch := first | assumption | omega) only [st_X8_isAgreed, ↓if_pos, ↓if_neg, if_pos, if_neg, ↓reduceIte, true_and, and_true, false_and, and_false, true_or, or_true, false_or, or_false, w32_id, Kv, Kn, fup_s, fup_a, fup_k, fup_fup, Int.reduceAdd, Int.reduceSub, Int.reduceMul, Int.reduceNeg, fup_r, S_of, S_isEnd, if_neg hc]
          exact hKK _ (Or.inl rfl) ⟨fun z => absurd z (by decide), fun z => absurd z.1 (by decide)⟩
        · subst he
          simp (disch := first | assumption | omega | (simp (disch := omega) only [fup_s, fup_k, fup_a, fup_r, frow_s, frow_r, frow_sk, frow_rk, fcpy_r, frng_r]; assumption) | (simp (disch := omega) only [fup_s, fup_k, fup_a, fup_r, frow_s, frow_r, frow_sk, frow_rk, fcpy_r, frng_r]; omega)) only [st_law_2, st_X8_isAgreed, ↓if_pos, ↓if_neg, if_pos, if_neg, ↓reduceIte, true_and, and_true, false_and, and_false, true_or, or_true, false_or, or_false, w32_id, Kv, Kn, fup_s, fup_a, fup_k, fup_fup, Int.reduceAdd, Int.reduceSub, Int.reduceMul, Int.reduceNeg, S_thrown, fup_s, fup_k, fup_a, fup_r, frow_s, frow_r, frow_sk, frow_rk, fcpy_r, frng_r, plcmp_eq, S_of, S_isEnd, if_neg hc]
          exact hKK _ (Or.inl rfl) ⟨fun z => absurd z (by decide), fun z => absurd z.2 hc⟩
    · rintro L ⟨e, rfl, he, hee⟩
      have : d = e := by
        rcases hd with z | z <;> rcases he with y | y
        · omega
        · exact absurd (hde.mpr (hee.mp y)) (by omega)
        · exact absurd (hee.mpr (hde.mp z)) (by omega)
        · omega
      rw [this] at K
      rw [sh_X8_isAgreed_22]
      simp (disch := first | assumption | omega) only [st_X8_isAgreed, ↓if_pos, ↓if_neg, if_pos, if_neg, ↓reduceIte, true_and, and_true, false_and, and_false, true_or, or_true, false_or, or_false, w32_id, Kv, Kn, fup_s, fup_a, fup_k, fup_fup, Int.reduceAdd, Int.reduceSub, Int.reduceMul, Int.reduceNeg, fup_a]
      exact K
  by_cases hc : 0 < h 179 1
  · skip
    simp (disch := first | assumption | omega) only [st_X8_isAgreed, ↓if_pos, ↓if_neg, if_pos, if_neg, ↓reduceIte, true_and, and_true, false_and, and_false, true_or, or_true, false_or, or_false, w32_id, Kv, Kn, fup_s, fup_a, fup_k, fup_fup, Int.reduceAdd, Int.reduceSub, Int.reduceMul, Int.reduceNeg]
    exact main 1 (Or.inr rfl) ⟨fun _ => hc, fun _ => rfl⟩
  · skip
    simp (disch := first | assumption | omega) only [st_X8_isAgreed, ↓if_pos, ↓if_neg, if_pos, if_neg, ↓reduceIte, true_and, and_true, false_and, and_false, true_or, or_true, false_or, or_false, w32_id, Kv, Kn, fup_s, fup_a, fup_k, fup_fup, Int.reduceAdd, Int.reduceSub, Int.reduceMul, Int.reduceNeg]
    exact main 0 (Or.inl rfl) ⟨fun z => absurd z (by decide), fun z => absurd z hc⟩
theorem Q_19 {i : Int} {l5 l6 : Option PV} {nx : Nat} {h r : PF} {s : Int → Int} {Q : PO → PY → Nat → PC → Prop} (hI : Inv h r) (hi : 0 ≤ i) (hi2 : i + 5 < s (-1)) (hi3 : s (-1) ≤ 4000) (H : ∀ (a b : Option PV) (nx' : Nat) (h' r' : PF), Inv h' r' → nx' ≤ nx + 1 → Wp 257 2079 [some (pR (-1000)), some (pR 1), some (pR 178), some (pR 195), some (pI i), a, b, none] [] LY nx' (h', r', s) Q) : Wp 257 1223 [some (pR (-1000)), some (pR 1), some (pR 178), some (pR 195), some (pI i), l5, l6, none] [] LY nx (h, r, s) Q := by
  obtain ⟨hW, hp0, hp1, hp2, hpk, hP, hS0, hk144, hT, hN, hR, hS, ep0, ep1, ep3, ep4, hT0, hT1⟩ := beg_of hI
  have k153 : kd LY 153 = (1, 80) := by decide +kernel
  have k152 : kd LY 152 = (1, 6) := by decide +kernel
  have k151 : kd LY 151 = (1, 60) := by decide +kernel
  obtain ⟨⟨hs0, hsk⟩, ⟨hsr0, hsp0, hsd0⟩, ⟨hsr1, hsp1, hsd1⟩, ⟨hsr2, hsp2, hsd2⟩, ⟨hsr3, hsp3, hsd3⟩, ⟨hsr4, hsp4, hsd4⟩, ⟨hsr5, hsp5, hsd5⟩, ⟨hsr6, hsp6, hsd6⟩, ⟨hsr7, hsp7, hsd7⟩, ⟨hsr12, hsp12, hsd12⟩⟩ := stok_144 hW
  have hMm := wn_wm hN
  have hcd : ∃ d : Int, (d = 0 ∨ d = 1) ∧ (d = 1 ↔ 0 < h 179 1 ∧ gAg (h 179) (h 180) (h 179 1)) := by
    by_cases hz : 0 < h 179 1 ∧ gAg (h 179) (h 180) (h 179 1)
    · exact ⟨1, Or.inr rfl, fun _ => hz, fun _ => rfl⟩
    · exact ⟨0, Or.inl rfl, fun y => absurd y (by decide), fun y => absurd y hz⟩
  obtain ⟨d, hd, hde⟩ := hcd
  simp (disch := first | assumption | omega | (simp (disch := omega) only [fup_s, fup_k, fup_a, fup_r, frow_s, frow_r, frow_sk, frow_rk, fcpy_r, frng_r]; assumption) | (simp (disch := omega) only [fup_s, fup_k, fup_a, fup_r, frow_s, frow_r, frow_sk, frow_rk, fcpy_r, frng_r]; omega)) only [st_law_19, st_X7_isAgreed, ↓if_pos, ↓if_neg, if_pos, if_neg, ↓reduceIte, true_and, and_true, false_and, and_false, true_or, or_true, false_or, or_false, w32_id, Kv, Kn, fup_s, fup_a, fup_k, fup_fup, Int.reduceAdd, Int.reduceSub, Int.reduceMul, Int.reduceNeg, S_thrown, fup_s, fup_k, fup_a, fup_r, frow_s, frow_r, frow_sk, frow_rk, fcpy_r, frng_r, plcmp_eq]
  refine C_agreed hP (stok_144 hW) hT hR hS hMm hd hde ?_
  simp (disch := first | assumption | omega | (simp (disch := omega) only [fup_s, fup_k, fup_a, fup_r, frow_s, frow_r, frow_sk, frow_rk, fcpy_r, frng_r]; assumption) | (simp (disch := omega) only [fup_s, fup_k, fup_a, fup_r, frow_s, frow_r, frow_sk, frow_rk, fcpy_r, frng_r]; omega)) only [st_law_19, st_X7_isAgreed, ↓if_pos, ↓if_neg, if_pos, if_neg, ↓reduceIte, true_and, and_true, false_and, and_false, true_or, or_true, false_or, or_false, w32_id, Kv, Kn, fup_s, fup_a, fup_k, fup_fup, Int.reduceAdd, Int.reduceSub, Int.reduceMul, Int.reduceNeg, S_thrown, fup_s, fup_k, fup_a, fup_r, frow_s, frow_r, frow_sk, frow_rk, fcpy_r, frng_r, plcmp_eq]
  refine F_agreed hW hT hMm hd hde ?_
  simp (disch := first | assumption | omega | (simp (disch := omega) only [fup_s, fup_k, fup_a, fup_r, frow_s, frow_r, frow_sk, frow_rk, fcpy_r, frng_r]; assumption) | (simp (disch := omega) only [fup_s, fup_k, fup_a, fup_r, frow_s, frow_r, frow_sk, frow_rk, fcpy_r, frng_r]; omega)) only [st_law_19, ↓if_pos, ↓if_neg, if_pos, if_neg, ↓reduceIte, true_and, and_true, false_and, and_false, true_or, or_true, false_or, or_false, w32_id, Kv, Kn, fup_s, fup_a, fup_k, fup_fup, Int.reduceAdd, Int.reduceSub, Int.reduceMul, Int.reduceNeg, S_thrown, fup_s, fup_k, fup_a, fup_r, frow_s, frow_r, frow_sk, frow_rk, fcpy_r, frng_r, plcmp_eq]
  all_goals ((try split) <;> exact H _ _ _ _ _ (inv_same hI ⟨fun a ha => by unfold Core at ha; simp (disch := omega) only [fup_r, frow_r], by simp (disch := omega) only [fup_k, fup_a, frow_rk], by simp (disch := omega) only [fup_k, fup_a, frow_rk], by simp (disch := omega) only [fup_k, fup_a, frow_rk]⟩) (by omega))
