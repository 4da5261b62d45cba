theorem S_says {l b : Int} {N : Int → Int} {nx : Nat} {h r : PF} {s : Int → Int} {Q : PO → PY → Nat → PC → Prop} (hW : WFr r) (hT : TWf (h 179)) (hM : MWf (h 179) N) (hl : 0 ≤ l) (hl2 : l < h 179 0) (h3 : 0 ≤ N 3 ∧ N 3 < 60) (hc : ∀ m, 0 ≤ m → m < h 179 1 → pand (pshr b m) 1 = 1 → 0 ≤ gTo (h 179) N m l ∧ ¬ (0 < gS (h 179) m (gTo (h 179) N m l) 1 ∧ gOf N m (5 + (gTo (h 179) N m l)) = 0)) : Wp 175 0 [some (pR 178), some (pI l), some (pI b), none] [] LY nx (frow h 180 N, r, s) Q ↔ Q (Sum.inl none) LY nx (frow h 180 (gSays (h 179) N l b), r, s) := by
  refine Wp.eq ?_
  have hT0 := hT.1
  have hT1 := hT.2.1
  simp (disch := first | assumption | omega | (simp (disch := omega) only [frow_r, frow_s]; first | assumption | omega)) only [st_X8_says, ↓if_pos, ↓if_neg, if_pos, if_neg, ↓reduceIte, true_and, and_true, false_and, and_false, true_or, or_true, false_or, or_false, w32_id, Kv, Kn, fup_s, fup_a, fup_k, fup_fup, Int.reduceAdd, Int.reduceSub, Int.reduceMul, Int.reduceNeg, frow_r, frow_s, frow_rk, frow_sk, fup_frow, gOf_s, gOf_k, up1_s, up1_k]
  have hM0 : MWf (h 179) (gSay0 N l) := wm_out hT (wm_out hT hM (by omega) (by omega)) (by omega) (by omega)
  refine loopW (Inv := fun i L H R => ∃ Ni, L = [some (pR 178), some (pI l), some (pI b), some (pI i)] ∧ H = frow h 180 Ni ∧ R = r ∧ Ni = upto (gSayF (h 179) l b) i.toNat (gSay0 N l) ∧ MWf (h 179) Ni ∧ ∀ m, i ≤ m → m < h 179 1 → ∀ w, 0 ≤ w → w < 11 → gOf Ni m w = gOf N m w) (a := 0) (n := h 179 1) (by omega) ?_ ?_ _ _ _ ⟨gSay0 N l, rfl, rfl, rfl, rfl, hM0, fun m hm hm2 w hw hw2 => by unfold gSay0; rw [gOf_k (by omega), gOf_k (by omega)]⟩
  · rintro i L H R hi hi2 ⟨Ni, rfl, rfl, rfl, hNi, hMi, hu⟩ hK
    have hci : ∀ (m : Int), m = i → pand (pshr b m) 1 = 1 → 0 ≤ gTo (h 179) Ni m l ∧ ¬ (0 < gS (h 179) m (gTo (h 179) Ni m l) 1 ∧ gOf Ni m (5 + (gTo (h 179) Ni m l)) = 0) := by
      intro m hm hb
      subst hm
      have h1 := hc m hi hi2 hb
      have e0 : gTo (h 179) Ni m l = gTo (h 179) N m l := by unfold gTo; rw [hu m (by omega) hi2 0 (by omega) (by omega)]
      have hg := gTo_rng hT hM hi hi2 hl (show l < 4 by omega)
      rw [e0, hu m (by omega) hi2 _ (by omega) (by omega)]
      exact h1
    have hK2 := hK _ _ _ ⟨gSayF (h 179) l b i Ni, rfl, rfl, rfl, by rw [upto_s hi, ← hNi], wm_sayF hT hMi hi hi2 hl (by omega) (hci i rfl), fun m hm hm2 w hw hw2 => by rw [gSayF_o hT hMi hi hi2 hl (by omega) (hci i rfl) (by omega) (by omega) (by omega) hw hw2]; exact hu m (by omega) hm2 w hw hw2⟩
    clear hK
    have hMo := wm_ok hMi hi hi2
    unfold gSayF at hK2
    rw [sh_X8_says_26]
    by_cases hb : pand (pshr b i) 1 = 1
    · rw [if_pos hb] at hK2
      have hto := (hci i rfl hb).1
      simp (disch := first | assumption | omega | (simp (disch := omega) only [frow_r, frow_s]; first | assumption | omega)) only [st_X8_says, ↓if_pos, ↓if_neg, if_pos, if_neg, ↓reduceIte, true_and, and_true, false_and, and_false, true_or, or_true, false_or, or_false, w32_id, Kv, Kn, fup_s, fup_a, fup_k, fup_fup, Int.reduceAdd, Int.reduceSub, Int.reduceMul, Int.reduceNeg, frow_r, frow_s, frow_rk, frow_sk, fup_frow, gOf_s, gOf_k, up1_s, up1_k, S_enters]
      exact hK2
    · rw [if_neg hb] at hK2
      by_cases ho : gO (h 179) i 3 = 1
      · rw [if_pos ho] at hK2
        simp (disch := first | assumption | omega | (simp (disch := omega) only [frow_r, frow_s]; first | assumption | omega)) only [st_X8_says, ↓if_pos, ↓if_neg, if_pos, if_neg, ↓reduceIte, true_and, and_true, false_and, and_false, true_or, or_true, false_or, or_false, w32_id, Kv, Kn, fup_s, fup_a, fup_k, fup_fup, Int.reduceAdd, Int.reduceSub, Int.reduceMul, Int.reduceNeg, frow_r, frow_s, frow_rk, frow_sk, fup_frow, gOf_s, gOf_k, up1_s, up1_k, S_toldOf, S_hears]
        exact hK2
      · rw [if_neg ho] at hK2
        simp (disch := first | assumption | omega | (simp (disch := omega) only [frow_r, frow_s]; first | assumption | omega)) only [st_X8_says, ↓if_pos, ↓if_neg, if_pos, if_neg, ↓reduceIte, true_and, and_true, false_and, and_false, true_or, or_true, false_or, or_false, w32_id, Kv, Kn, fup_s, fup_a, fup_k, fup_fup, Int.reduceAdd, Int.reduceSub, Int.reduceMul, Int.reduceNeg, frow_r, frow_s, frow_rk, frow_sk, fup_frow, gOf_s, gOf_k, up1_s, up1_k, S_toldOf]
        exact hK2
  · rintro L H R ⟨Ni, rfl, rfl, rfl, hNi, hMi, hu⟩
    rw [sh_X8_says_26]
    simp (disch := first | assumption | omega | (simp (disch := omega) only [frow_r, frow_s]; first | assumption | omega)) only [st_X8_says, ↓if_pos, ↓if_neg, if_pos, if_neg, ↓reduceIte, true_and, and_true, false_and, and_false, true_or, or_true, false_or, or_false, w32_id, Kv, Kn, fup_s, fup_a, fup_k, fup_fup, Int.reduceAdd, Int.reduceSub, Int.reduceMul, Int.reduceNeg, frow_r, frow_s, frow_rk, frow_sk, fup_frow, gOf_s, gOf_k, up1_s, up1_k]
    all_goals (rw [hNi]; rfl)
theorem wm_says {T N : Int → Int} {l b : Int} (hT : TWf T) (hM : MWf T N) (hl : 0 ≤ l) (hl2 : l < T 0) (h3 : 0 ≤ N 3 ∧ N 3 < 60) (hc : ∀ m, 0 ≤ m → m < T 1 → pand (pshr b m) 1 = 1 → 0 ≤ gTo T N m l ∧ ¬ (0 < gS T m (gTo T N m l) 1 ∧ gOf N m (5 + (gTo T N m l)) = 0)) : MWf T (gSays T N l b) ∧ ∀ k, k < 64 ∨ 108 ≤ k → k ≠ 1 → k ≠ 191 → gSays T N l b k = gSay0 N l k := by
  have hT0 := hT.1
  have hT1 := hT.2.1
  have hM0 : MWf T (gSay0 N l) := wm_out hT (wm_out hT hM (by omega) (by omega)) (by omega) (by omega)
  have key : MWf T (upto (gSayF T l b) (T 1).toNat (gSay0 N l)) ∧ (∀ m : Int, ((T 1).toNat : Int) ≤ m → m < T 1 → ∀ w, 0 ≤ w → w < 11 → gOf (upto (gSayF T l b) (T 1).toNat (gSay0 N l)) m w = gOf N m w) ∧ ∀ k, k < 64 ∨ 108 ≤ k → k ≠ 1 → k ≠ 191 → upto (gSayF T l b) (T 1).toNat (gSay0 N l) k = gSay0 N l k := by
    refine upto_ind (P := fun (i : Nat) (Ni : Int → Int) => MWf T Ni ∧ (∀ m, (i : Int) ≤ m → m < T 1 → ∀ w, 0 ≤ w → w < 11 → gOf Ni m w = gOf N m w) ∧ ∀ k, k < 64 ∨ 108 ≤ k → k ≠ 1 → k ≠ 191 → Ni k = gSay0 N l k) ⟨hM0, fun m hm hm2 w hw hw2 => by unfold gSay0; rw [gOf_k (by omega), gOf_k (by omega)], fun k _ _ _ => rfl⟩ _ (fun i Ni hi ⟨hMi, hu, hk⟩ => ?_)
    have hi0 : 0 ≤ (i : Int) := by omega
    have hi2 : (i : Int) < T 1 := by omega
    have hci : pand (pshr b i) 1 = 1 → 0 ≤ gTo T Ni i l ∧ ¬ (0 < gS T i (gTo T Ni i l) 1 ∧ gOf Ni i (5 + (gTo T Ni i l)) = 0) := by
      intro hb
      have h1 := hc i hi0 hi2 hb
      have e0 : gTo T Ni i l = gTo T N i l := by unfold gTo; rw [hu i (by omega) hi2 0 (by omega) (by omega)]
      have hg := gTo_rng hT hM hi0 hi2 hl (show l < 4 by omega)
      rw [e0, hu i (by omega) hi2 _ (by omega) (by omega)]
      exact h1
    have hg := gTo_rng hT hMi hi0 hi2 hl (show l < 4 by omega)
    refine ⟨wm_sayF hT hMi hi0 hi2 hl (by omega) hci, fun m hm hm2 w hw hw2 => by rw [gSayF_o hT hMi hi0 hi2 hl (by omega) hci (by omega) (by omega) (by omega) hw hw2]; exact hu m (by omega) hm2 w hw hw2, fun k hk1 hk2 hk3 => ?_⟩
    rw [← hk k hk1 hk2 hk3]
    have he : 0 ≤ gTo T Ni i l → gEnters T Ni i l k = Ni k := by
      intro h0
      unfold gEnters gEnter0
      split
      · rw [up1_k (by omega), up1_k (by omega), up1_k (by omega)]
      · rw [up1_k (by omega), up1_k (by omega)]
    unfold gSayF gHears
    by_cases hb : pand (pshr b i) 1 = 1
    · rw [if_pos hb]; exact he (hci hb).1
    · rw [if_neg hb]
      split
      · split
        · rename_i hz; exact he hz.1
        · unfold gBalk gChest
          rw [up1_k (by omega), up1_k (by omega), up1_k (by omega), up1_k (by omega)]
      · rfl
  exact ⟨key.1, key.2.2⟩
def gTurnF (s m : Int) (N : Int → Int) : Int → Int := up1 N (64 + 11 * m + 1) (gOf N m 1 + s)
def gTurn1 (T N : Int → Int) : Int → Int := if T 3 ≤ gOf N (N 2) 1 then gFresh T (gChest N (N 2) (T 3) 3) (N 2) else N
def gTurn2 (T N : Int → Int) : Int → Int := up1 (gTurn1 T N) 2 (prem (N 2 + 1) (T 1))
def gTurn3 (T N : Int → Int) : Int → Int := upto (gTurnF (pdiv (gTurn2 T N 1) (T 1))) (T 1).toNat (gTurn2 T N)
def gTurns (T N : Int → Int) : Int → Int := up1 (up1 (gTurn3 T N) 1 (gTurn3 T N 1 - pdiv (gTurn2 T N 1) (T 1) * T 1)) 193 (w32 (gTurn3 T N 193 + pdiv (gTurn2 T N 1) (T 1) * T 1))
theorem gFresh_o {T N : Int → Int} {m k : Int} (h : k < 64 + 11 * m ∨ 64 + 11 * m + 11 ≤ k ∨ (64 + 11 * m < k ∧ k < 64 + 11 * m + 5)) : gFresh T N m k = N k := by
  unfold gFresh
  refine upto_ind (P := fun _ (Ni : Int → Int) => Ni k = N k) (up1_k (by omega)) 6 (fun i Ni hi hN => ?_)
  unfold gFreshF
  rw [up1_k (by omega)]
  exact hN
theorem wm_fresh {T N : Int → Int} {m : Int} (hT : TWf T) (h : MWf T N) (hm : 0 ≤ m) (hm2 : m < T 1) : MWf T (gFresh T N m) := by
  have hTm := hT.2.2.2.2.2 m hm hm2
  unfold gFresh
  refine upto_ind (P := fun _ (Ni : Int → Int) => MWf T Ni) (wm_up hT h hm (by omega) (by omega) (by omega) (fun _ _ => by omega) (fun z => by omega) (fun z => by omega)) 6 (fun i Ni hi hN => ?_)
  unfold gFreshF
  have h1 := (hTm.2 i (by omega) (by omega)).1
  have h4 := hT.2.1
  have h2 := hT.2.2.2.2.1 (4 + 40 * m + (4 + 6 * i + 1)) (by omega) (by omega)
  exact wm_up hT hN hm (by omega) (by omega) (by omega) (fun z => by omega) (fun z => by omega) (fun _ => by unfold gS gO at h1 ⊢; omega)
theorem wm_turn1 {T N : Int → Int} (hT : TWf T) (h : MWf T N) (h2 : 0 ≤ N 2 ∧ N 2 < T 1) : MWf T (gTurn1 T N) := by
  have hT3 := hT.2.2.2.1
  unfold gTurn1
  split
  · exact wm_fresh hT (wm_chest hT h h2.1 h2.2 (by omega) (by assumption) (by omega) (by omega)) h2.1 h2.2
  · exact h
