theorem C_playRounds {p b n : Int} {T N : Int → Int} {nx : Nat} {h r : PF} {s : Int → Int} {Q : PO → PY → Nat → PC → Prop} (hW : WFr r) (hP : PlOk r p) (hS0 : StOk r b) (hT : TWf T) (hR : PlanRel h p T) (hS : StRel h b T N) (hp20 : 20 < p) (hb20 : 20 < b) (hpb : p + 6 < b ∨ b + 9 < p) (hN : NWf T N) (hn : 0 ≤ n) (hn2 : n ≤ 20) (K : ∀ h' : PF, (∀ a, a < 9 ∨ 14 < a → a < b ∨ b + 9 < a → h' a = h a) → StRel h' b T (gPlay T n.toNat N) → Q (Sum.inl (some (pI (gPlay T n.toNat N 3 - N 3)))) LY nx (h', r, s)) : Wp 9 0 [some (pR 9), some (pR p), some (pR b), some (pI n), none, none] [] LY nx (h, r, s) Q := by
  have hS10 := hS0.1.1
  have hS1k := hS0.1.2
  have e8 := hS.1.1
  have hN3 := hN.1
  simp (disch := first | assumption | omega) only [st_X0_playRounds, ↓if_pos, ↓if_neg, if_pos, if_neg, ↓reduceIte, true_and, and_true, false_and, and_false, true_or, or_true, false_or, or_false, w32_id, Kv, Kn, fup_s, fup_a, fup_k, fup_fup, Int.reduceAdd, Int.reduceSub, Int.reduceMul, Int.reduceNeg, e8]
  have key : ∀ (k : Nat) (i : Int) (N' : Int → Int) (H : PF), i + k = n → 0 ≤ i → NWf T N' → N 3 ≤ N' 3 → gPlay T n.toNat N = gPlay T k N' → (∀ a, a < 9 ∨ 14 < a → a < b ∨ b + 9 < a → H a = h a) → StRel H b T N' → Wp 9 9 [some (pR 9), some (pR p), some (pR b), some (pI n), some (pI (N 3)), some (pI i)] [] LY nx (H, r, s) Q := by
    intro k
    induction k with
    | zero =>
      intro i N' H hi hi0 hN' h3 hg hf hSH
      have hN3' := hN'.1
      have e8' := hSH.1.1
      rw [sh_X0_playRounds_9]
      simp (disch := first | assumption | omega) only [st_X0_playRounds, ↓if_pos, ↓if_neg, if_pos, if_neg, ↓reduceIte, true_and, and_true, false_and, and_false, true_or, or_true, false_or, or_false, w32_id, Kv, Kn, fup_s, fup_a, fup_k, fup_fup, Int.reduceAdd, Int.reduceSub, Int.reduceMul, Int.reduceNeg, e8']
      have := K H hf (by rw [hg]; exact hSH)
      rw [hg] at this
      exact this
    | succ k ih =>
      intro i N' H hi hi0 hN' h3 hg hf hSH
      have hN3' := hN'.1
      have e8' := hSH.1.1
      rw [sh_X0_playRounds_9]
      by_cases h60 : N' 3 < 60
      · have e1 : gPlay T (k + 1) N' = gPlay T k (gRound T N') := by show (if N' 3 < 60 then _ else _) = _; rw [if_pos h60]
        have hr := gRound_ok hT hN' h60
        have hRH : PlanRel H p T := pr_fr (fun a h1 h2 => hf a (by omega) (by omega)) hR
        simp (disch := first | assumption | omega) only [st_X0_playRounds, st_X5_isFull, ↓if_pos, ↓if_neg, if_pos, if_neg, ↓reduceIte, true_and, and_true, false_and, and_false, true_or, or_true, false_or, or_false, w32_id, Kv, Kn, fup_s, fup_a, fup_k, fup_fup, Int.reduceAdd, Int.reduceSub, Int.reduceMul, Int.reduceNeg, e8']
        refine D_collect hW hP hS0 hT hRH hSH hN' hp20 hb20 (fun h' hf' f10 f13 f95 f96 f97 => ?_)
        simp (disch := first | assumption | omega) only [st_X0_playRounds, ↓if_pos, ↓if_neg, if_pos, if_neg, ↓reduceIte, true_and, and_true, false_and, and_false, true_or, or_true, false_or, or_false, w32_id, Kv, Kn, fup_s, fup_a, fup_k, fup_fup, Int.reduceAdd, Int.reduceSub, Int.reduceMul, Int.reduceNeg]
        refine C_carryOut hW hP hS0 hT (pr_fr (fun a h1 h2 => hf' a (by omega)) hRH) (sr_fr (fun a h1 h2 => hf' a (by omega)) hSH) hp20 hb20 hpb hN' h60 (fun m h1 h2 => (f10 m h1 h2).2.2) f95 f96 f97 (fun h'' hf'' hS'' => ?_)
        simp (disch := first | assumption | omega) only [st_X0_playRounds, ↓if_pos, ↓if_neg, if_pos, if_neg, ↓reduceIte, true_and, and_true, false_and, and_false, true_or, or_true, false_or, or_false, w32_id, Kv, Kn, fup_s, fup_a, fup_k, fup_fup, Int.reduceAdd, Int.reduceSub, Int.reduceMul, Int.reduceNeg]
        exact ih _ _ _ (by omega) (by omega) hr.1 (by rw [hr.2]; split <;> omega) (by rw [hg, e1]) (fun a h1 h2 => by rw [hf'' a h2, hf' a h1, hf a h1 h2]) hS''
      · have e1 : gPlay T (k + 1) N' = N' := by show (if N' 3 < 60 then _ else _) = _; rw [if_neg h60]
        simp (disch := first | assumption | omega) only [st_X0_playRounds, st_X5_isFull, ↓if_pos, ↓if_neg, if_pos, if_neg, ↓reduceIte, true_and, and_true, false_and, and_false, true_or, or_true, false_or, or_false, w32_id, Kv, Kn, fup_s, fup_a, fup_k, fup_fup, Int.reduceAdd, Int.reduceSub, Int.reduceMul, Int.reduceNeg, e8']
        have := K H hf (by rw [hg, e1]; exact hSH)
        rw [hg, e1] at this
        exact this
  exact key n.toNat 0 N h (by omega) (by omega) hN (by omega) rfl (fun a _ _ => rfl) hS
