theorem w32_w32 {x : Int} : w32 (w32 x) = w32 x := by unfold w32; exact Int.bmod_bmod
theorem C_pay {b m c a : Int} {T N : Int → Int} {nx : Nat} {h r : PF} {s : Int → Int} {Q : PO → PY → Nat → PC → Prop} (hS0 : StOk r b) (hT1 : T 1 ≤ 4) (h60 : N 3 ≤ 60) (h108 : N 108 ≤ 20) (hS : StRel h b T N) (hm : 0 ≤ m) (hm2 : m < T 1) (ha : 0 ≤ a) (ha2 : a < 6) (hc : 0 ≤ c ∧ c ≤ 10000) (h1 : -10000 ≤ gOf N m 1 ∧ gOf N m 1 ≤ 10000) (h2 : 0 ≤ N 1 ∧ N 1 ≤ 10000) (K : ∀ h' : PF, (∀ a, a < b ∨ b + 9 < a → h' a = h a) → StRel h' b T (gChest N m c a) → Q (Sum.inl none) LY nx (h', r, s)) : Wp 64 0 [some (pR b), some (pI m), some (pI c), some (pI a)] [] LY nx (h, r, s) Q := by
  have e1 := (st_m hS hm hm2).2.1
  have e2 := hS.1.2.2.1
  have e3 := hS.2.2.1 a ha ha2
  obtain ⟨⟨hs0, hsk⟩, ⟨hsr0, hsp0, hsd0⟩, ⟨hsr1, hsp1, hsd1⟩, ⟨hsr2, hsp2, hsd2⟩, ⟨hsr3, hsp3, hsd3⟩, ⟨hsr4, hsp4, hsd4⟩, ⟨hsr5, hsp5, hsd5⟩, ⟨hsr6, hsp6, hsd6⟩, ⟨hsr7, hsp7, hsd7⟩, ⟨hsr12, hsp12, hsd12⟩⟩ := hS0
  simp (disch := first | assumption | omega) only [st_X5_pay, ↓if_pos, ↓if_neg, if_pos, if_neg, ↓reduceIte, true_and, and_true, false_and, and_false, true_or, or_true, false_or, or_false, w32_id, Kv, Kn, fup_s, fup_a, fup_k, fup_fup, Int.reduceAdd, Int.reduceSub, Int.reduceMul, Int.reduceNeg, e1, e2, e3]
  refine K _ (fun a' h3 => ?_) ?_
  · rw [fup_r (by omega), fup_r (by omega), fup_r (by omega)]
  · unfold gChest
    exact sr_acc hT1 (by rw [up1_k (by omega), up1_k (by omega)]; exact h60) (by rw [up1_k (by omega), up1_k (by omega)]; exact h108) ha ha2 (fun _ => w32_w32) (sr_f10 hT1 (by rw [up1_k (by omega)]; exact h60) (sr_m1 hT1 h60 hm (by omega) hS))
theorem C_restart {p b m : Int} {T N : Int → Int} {nx : Nat} {h r : PF} {s : Int → Int} {Q : PO → PY → Nat → PC → Prop} (hP : PlOk r p) (hS0 : StOk r b) (hT : TWf T) (h60 : N 3 ≤ 60) (hR : PlanRel h p T) (hS : StRel h b T N) (hpb : p + 6 < b ∨ b + 9 < p) (hm : 0 ≤ m) (hm2 : m < T 1) (K : ∀ h' : PF, (∀ a, a < b ∨ b + 9 < a → h' a = h a) → StRel h' b T (gFresh T N m) → Q (Sum.inl none) LY nx (h', r, s)) : Wp 66 0 [some (pR b), some (pR p), some (pI m), none] [] LY nx (h, r, s) Q := by
  have hT1 := hT.2.1
  obtain ⟨⟨hs0, hsk⟩, ⟨hsr0, hsp0, hsd0⟩, ⟨hsr1, hsp1, hsd1⟩, ⟨hsr2, hsp2, hsd2⟩, ⟨hsr3, hsp3, hsd3⟩, ⟨hsr4, hsp4, hsd4⟩, ⟨hsr5, hsp5, hsd5⟩, ⟨hsr6, hsp6, hsd6⟩, ⟨hsr7, hsp7, hsd7⟩, ⟨hsr12, hsp12, hsd12⟩⟩ := hS0
  obtain ⟨⟨hq0, hqk⟩, ⟨hqr5, hqp5, hqd5⟩, ⟨hqr6, hqp6, hqd6⟩, ⟨hqr7, hqp7, hqd7⟩, ⟨hqr8, hqp8, hqd8⟩, ⟨hqr9, hqp9, hqd9⟩, ⟨hqr10, hqp10, hqd10⟩⟩ := hP
  simp (disch := first | assumption | omega) only [st_X5_restart, ↓if_pos, ↓if_neg, if_pos, if_neg, ↓reduceIte, true_and, and_true, false_and, and_false, true_or, or_true, false_or, or_false, w32_id, Kv, Kn, fup_s, fup_a, fup_k, fup_fup, Int.reduceAdd, Int.reduceSub, Int.reduceMul, Int.reduceNeg]
  refine K _ (fun a' h3 => ?_) ?_
  · rw [fup_r (by omega), fcpy_r (by omega)]
  · have key : ∀ n : Nat, n ≤ 6 → StRel (fup (fcpy h (p + 5) (m * 6) (b + 6) (m * 6) n) (b + 1) m 0) b T (upto (gFreshF T m) n (up1 N (64 + 11 * m + 0) 0)) := by
      intro n
      induction n with
      | zero =>
        intro _
        rw [fcpy_nil (by omega)]
        exact sr_m0 hT1.2 h60 hm (by omega) hS
      | succ n ih =>
        intro hn
        have i1 := ih (by omega)
        have e0 : upto (gFreshF T m) (n + 1) (up1 N (64 + 11 * m + 0) 0) = up1 (upto (gFreshF T m) n (up1 N (64 + 11 * m + 0) 0)) (64 + 11 * m + (5 + n)) (gS T m n 1) := rfl
        have h3 : upto (gFreshF T m) n (up1 N (64 + 11 * m + 0) 0) 3 = N 3 := upto_ind (P := fun _ (Ni : Int → Int) => Ni 3 = N 3) (up1_k (by omega)) n (fun k x hk hx => by unfold gFreshF; rw [up1_k (by omega)]; exact hx)
        have ep := (((hR.2 m hm hm2).2 n (by omega) (by omega)).1).2
        have e1 : fup (fcpy h (p + 5) (m * 6) (b + 6) (m * 6) ((n + 1 : Nat) : Int)) (b + 1) m 0 = fup (fup (fcpy h (p + 5) (m * 6) (b + 6) (m * 6) n) (b + 1) m 0) (b + 6) (m * 6 + n) (h (p + 5) (m * 6 + n)) := by
          have e2 := fcpy_end (f := h) (a := p + 5) (sp := m * 6) (b := b + 6) (dp := m * 6) (i := n) (by omega) (Or.inl (by omega))
          rw [fcpy_a (by omega)] at e2
          rw [show ((n + 1 : Nat) : Int) = (n : Int) + 1 from by omega, ← e2]
          funext a' k'
          unfold fup
          by_cases z1 : a' = b + 1 ∧ k' = m
          · rw [if_pos z1, if_neg (by omega), if_pos z1]
          · rw [if_neg z1]
            by_cases z2 : a' = b + 6 ∧ k' = m * 6 + n
            · rw [if_pos z2, if_pos z2]
            · rw [if_neg z2, if_neg z2, if_neg z1]
        rw [e0, e1, ep]
        by_cases hg : gS T m n 1 = 0
        · rw [if_pos hg]
          exact sr_str0 hT1.2 (by rw [h3]; exact h60) hm (by omega) (by omega) (by omega) hg i1
        · rw [if_neg hg]
          exact sr_str hT1.2 (by rw [h3]; exact h60) hm (by omega) (by omega) (by omega) hg i1
    exact key 6 (by omega)
