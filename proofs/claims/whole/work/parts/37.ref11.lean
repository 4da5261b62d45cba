theorem S_rounds {nx : Nat} {h r : PF} {s : Int → Int} {Q : PO → PY → Nat → PC → Prop} (hW : WFr r) (hT : TWf (h 179)) (hN : NWf (h 179) (h 180)) (h60 : h 180 3 < 60) : Wp 178 0 [some (pR 178), none, none, none, none] [] LY nx (h, r, s) Q ↔ Q (Sum.inl (some (pI (if gRw (h 179) (h 180) = -1 then 0 else 1)))) LY nx (frow (frow h 184 (gPaid (h 179) (h 180) (gRw (h 179) (h 180)) (gRp (h 179) (h 180)) (h 184))) 180 (gRound (h 179) (h 180)), r, s) := by
  have hb := gBest_ok hT hN
  have hl := hb.2
  have hT1 := hT.2.1
  have e179 : frow h 184 (gPaid (h 179) (h 180) (gRw (h 179) (h 180)) (gRp (h 179) (h 180)) (h 184)) 179 = h 179 := frow_r (by omega)
  have e180 : frow h 184 (gPaid (h 179) (h 180) (gRw (h 179) (h 180)) (gRp (h 179) (h 180)) (h 184)) 180 = h 180 := frow_r (by omega)
  have S2 := fun K => S_rounds2 (nx := nx) (h := frow h 184 (gPaid (h 179) (h 180) (gRw (h 179) (h 180)) (gRp (h 179) (h 180)) (h 184))) (r := r) (s := s) (Q := fun o1 l1 n1 h1 => o1 = Sum.inl (some (pI (if gRw (h 179) (h 180) = -1 then 0 else 1))) ∧ l1 = LY ∧ n1 = nx ∧ h1 = (frow (frow h 184 (gPaid (h 179) (h 180) (gRw (h 179) (h 180)) (gRp (h 179) (h 180)) (h 184))) 180 (gRound (h 179) (h 180)), r, s)) hW (by rw [e179]; exact hT) (by rw [e179, e180]; exact hN) (by rw [e180]; exact h60) (fun m hm hm2 => by rw [e179, e180, frow_s]; rw [e179] at hm2; exact gPaid_ind hT hm hm2) K
  rw [e179, e180] at S2
  rw [← Wp.eq (Q := Q) (S2 ⟨rfl, rfl, rfl, rfl⟩)]
  unfold gRw gRp at *
  simp (disch := first | assumption | omega) only [st_X8_rounds_0, st_X8_rounds_1, ↓if_pos, ↓if_neg, if_pos, if_neg, ↓reduceIte, true_and, and_true, false_and, and_false, true_or, or_true, false_or, or_false, w32_id, Kv, Kn, fup_s, fup_a, fup_k, fup_fup, Int.reduceAdd, Int.reduceSub, Int.reduceMul, Int.reduceNeg, S_bestLetter, S_priceOf, S_laysPaid]
def gPlay (T : Int → Int) : Nat → (Int → Int) → (Int → Int)
  | 0, N => N
  | n + 1, N => if N 3 < 60 then gPlay T n (gRound T N) else N
theorem gPlay_ok {T : Int → Int} (hT : TWf T) : ∀ (n : Nat) (N : Int → Int), NWf T N → NWf T (gPlay T n N) ∧ N 3 ≤ gPlay T n N 3
  | 0, N, h => ⟨h, by show N 3 ≤ N 3; omega⟩
  | n + 1, N, h => by
    show NWf T (if N 3 < 60 then gPlay T n (gRound T N) else N) ∧ N 3 ≤ (if N 3 < 60 then gPlay T n (gRound T N) else N) 3
    by_cases hc : N 3 < 60
    · rw [if_pos hc]
      have h1 := gRound_ok hT h hc
      have h2 := gPlay_ok hT n _ h1.1
      refine ⟨h2.1, ?_⟩
      have h3 := h2.2
      rw [h1.2] at h3
      split at h3 <;> omega
    · rw [if_neg hc]; exact ⟨h, by omega⟩
theorem S_plays {n : Int} {nx : Nat} {h r : PF} {s : Int → Int} {Q : PO → PY → Nat → PC → Prop} (hW : WFr r) (hT : TWf (h 179)) (hN : NWf (h 179) (h 180)) (hn : 0 ≤ n) (hn2 : n ≤ 20) (K : ∀ P, Q (Sum.inl (some (pI (gPlay (h 179) n.toNat (h 180) 3 - h 180 3)))) LY nx (frow (frow h 184 P) 180 (gPlay (h 179) n.toNat (h 180)), r, s)) : Wp 179 0 [some (pR 178), some (pI n), none, none] [] LY nx (h, r, s) Q := by
  simp (disch := first | assumption | omega) only [st_X8_plays, ↓if_pos, ↓if_neg, if_pos, if_neg, ↓reduceIte, true_and, and_true, false_and, and_false, true_or, or_true, false_or, or_false, w32_id, Kv, Kn, fup_s, fup_a, fup_k, fup_fup, Int.reduceAdd, Int.reduceSub, Int.reduceMul, Int.reduceNeg]
  have hN3 := hN.1
  have key : ∀ (k : Nat) (c i : Int) (P N' : Int → Int), i + k = n → 0 ≤ i → NWf (h 179) N' → c = N' 3 - h 180 3 → h 180 3 ≤ N' 3 → gPlay (h 179) n.toNat (h 180) = gPlay (h 179) k N' → Wp 179 4 [some (pR 178), some (pI n), some (pI c), some (pI i)] [] LY nx (frow (frow h 184 P) 180 N', r, s) Q := by
    intro k
    induction k with
    | zero =>
      intro c i P N' hi hi0 hN' hc h3 hg
      rw [sh_X8_plays_4]
      simp (disch := first | assumption | omega) only [st_X8_plays, ↓if_pos, ↓if_neg, if_pos, if_neg, ↓reduceIte, true_and, and_true, false_and, and_false, true_or, or_true, false_or, or_false, w32_id, Kv, Kn, fup_s, fup_a, fup_k, fup_fup, Int.reduceAdd, Int.reduceSub, Int.reduceMul, Int.reduceNeg]
      have := K P
      rw [hg] at this
      rw [hc]
      exact this
    | succ k ih =>
      intro c i P N' hi hi0 hN' hc h3 hg
      have hN3' := hN'.1
      rw [sh_X8_plays_4]
      by_cases h60 : N' 3 < 60
      · have e1 : gPlay (h 179) (k + 1) N' = gPlay (h 179) k (gRound (h 179) N') := by show (if N' 3 < 60 then _ else _) = _; rw [if_pos h60]
        have hr := gRound_ok hT hN' h60
        have e179 : frow (frow h 184 P) 180 N' 179 = h 179 := by rw [frow_r (by omega), frow_r (by omega)]
        have e180 : frow (frow h 184 P) 180 N' 180 = N' := frow_s
        have e184 : ∀ P2 N2, frow (frow (frow (frow h 184 P) 180 N') 184 P2) 180 N2 = frow (frow h 184 P2) 180 N2 := by
          intro P2 N2
          funext a' k'
          unfold frow
          by_cases z1 : a' = 180
          · rw [if_pos z1, if_pos z1]
          · rw [if_neg z1, if_neg z1]
            by_cases z2 : a' = 184
            · rw [if_pos z2, if_neg z1, if_pos z2]
            · simp only [if_neg z1, if_neg z2]
        have SR := fun Q' => S_rounds (nx := nx) (h := frow (frow h 184 P) 180 N') (r := r) (s := s) (Q := Q') hW (by rw [e179]; exact hT) (by rw [e179, e180]; exact hN') (by rw [e180]; exact h60)
        rw [e179, e180] at SR
        have hcr : -1 ≤ c ∧ c ≤ 60 := by omega
        simp (disch := first | assumption | omega) only [st_X8_plays, ↓if_pos, ↓if_neg, if_pos, if_neg, ↓reduceIte, true_and, and_true, false_and, and_false, true_or, or_true, false_or, or_false, w32_id, Kv, Kn, fup_s, fup_a, fup_k, fup_fup, Int.reduceAdd, Int.reduceSub, Int.reduceMul, Int.reduceNeg, frow_sk, SR, e184]
        have hr2 := hr.2
        refine ih _ _ _ _ (by omega) (by omega) hr.1 ?_ ?_ (by rw [hg, e1])
        · rw [hr2]
          split
          all_goals first | omega | (rw [w32_id (by omega) (by omega)]; omega)
        · rw [hr2]; split <;> omega
      · have e1 : gPlay (h 179) (k + 1) N' = N' := by show (if N' 3 < 60 then _ else _) = _; rw [if_neg h60]
        simp (disch := first | assumption | omega) only [st_X8_plays, ↓if_pos, ↓if_neg, if_pos, if_neg, ↓reduceIte, true_and, and_true, false_and, and_false, true_or, or_true, false_or, or_false, w32_id, Kv, Kn, fup_s, fup_a, fup_k, fup_fup, Int.reduceAdd, Int.reduceSub, Int.reduceMul, Int.reduceNeg, frow_sk]
        have := K P
        rw [hg, e1] at this
        rw [hc]
        exact this
  have e0 : h = frow (frow h 184 (h 184)) 180 (h 180) := by rw [frow_self, frow_self]
  have := key n.toNat 0 0 (h 184) (h 180) (by omega) (by omega) hN (by omega) (by omega) rfl
  rw [← e0] at this
  exact this
