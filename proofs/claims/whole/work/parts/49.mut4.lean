theorem sr_say0 {h : PF} {b l : Int} {T N : Int → Int} (hT1 : T 1 ≤ 4) (h3 : 0 ≤ N 3 ∧ N 3 < 60) (h108 : N 108 ≤ 20) (hS : StRel h b T N) : StRel (fup (fup h (b + 7) (N 3) l) b 8 (N 3 + 1)) b T (gSay0 N l) := by
  obtain ⟨⟨a1, a2, a3, a4, a5, a6, a7, a8, a9⟩, hw, ha, hl, hmm⟩ := hS
  have u : ∀ k, k < 3 ∨ 64 ≤ k → gSay0 N l k = N k := fun k hk => by unfold gSay0; rw [up1_k (by omega), up1_k (by omega)]
  have u3 : gSay0 N l 3 = N 3 + 1 := up1_s
  have o : ∀ m w, 0 ≤ m → 0 ≤ w → gOf (gSay0 N l) m w = gOf N m w := fun m w hm hw => u _ (by omega)
  have f : ∀ k, k ≠ 8 → fup (fup h (b + 7) (N 3) l) b 8 (N 3 + 1) b k = h b k := fun k hk => by rw [fup_k hk, fup_a (by omega)]
  have g : ∀ j k, 1 ≤ j → j ≠ 7 → fup (fup h (b + 7) (N 3) l) b 8 (N 3 + 1) (b + j) k = h (b + j) k := fun j k h1 h2 => by rw [fup_a (by omega), fup_a (by omega)]
  refine ⟨⟨by rw [fup_s, u3], by rw [f 9 (by omega), u 0 (by omega)]; exact a2, by rw [f 10 (by omega), u 1 (by omega)]; exact a3, by rw [f 11 (by omega), u 2 (by omega)]; exact a4, by rw [f 13 (by omega), u 108 (by omega)]; exact a5, by rw [f 14 (by omega)]; exact a6, by rw [f 14 (by omega)]; exact a7, by rw [u 191 (by omega)]; exact a8, by rw [u 189 (by omega)]; exact a9⟩, fun k h1 h2 => ?_, fun i h1 h2 => by rw [g 8 i (by omega) (by omega), u (189 + i) (by omega)]; exact ha i h1 h2, fun k i h1 h2 h4 h5 => ?_, fun m' h1 h2 => ?_⟩
  · rw [u3] at h2
    rw [fup_a (by omega)]
    by_cases hk : k = N 3
    · rw [hk, fup_s]
      unfold gSay0
      rw [up1_k (by omega), up1_s]
    · rw [fup_k hk]
      unfold gSay0
      rw [up1_k (by omega), up1_k (by omega)]
      exact hw k h1 (by omega)
  · rw [u 108 (by omega)] at h2
    rw [f 14 (by omega), g 9 _ (by omega) (by omega), u (109 + 4 * k + i) (by omega)]
    exact hl k i h1 h2 h4 h5
  · have q := hmm m' h1 h2
    rw [g 1 _ (by omega) (by omega), g 2 _ (by omega) (by omega), g 3 _ (by omega) (by omega), g 4 _ (by omega) (by omega), g 5 _ (by omega) (by omega), o m' 0 h1 (by omega), o m' 1 h1 (by omega), o m' 2 h1 (by omega), o m' 3 h1 (by omega), o m' 4 h1 (by omega)]
    refine ⟨q.1, fun t h3 h4 => ?_⟩
    rw [g 6 _ (by omega) (by omega), o m' (5 + t) h1 (by omega)]
    exact q.2 t h3 h4
theorem sr_note {h : PF} {b l c m : Int} {T N : Int → Int} (hT1 : T 1 ≤ 4) (h60 : N 3 ≤ 60) (h108 : 0 ≤ N 108 ∧ N 108 ≤ 20) (hS : StRel h b T N) : StRel (fup (fup (fup (fup (fup (fup h (b + 9) (h b 14 * 4) l) (b + 9) (h b 14 * 4 + 1) c) (b + 9) (h b 14 * 4 + 2) m) (b + 9) (h b 14 * 4 + 3) (h b 9)) b 14 (if h b 14 + 1 < 20 then h b 14 + 1 else 0)) b 13 (if 20 < w32 (h b 13 + 1) then 20 else w32 (h b 13 + 1))) b T (gWrites N l c m) := by
  obtain ⟨⟨a1, a2, a3, a4, a5, a6, a7, a8, a9⟩, hw, ha, hl, hmm⟩ := hS
  generalize he : h b 14 = e at *
  have u : ∀ k, k < 108 ∨ 189 ≤ k → gWrites N l c m k = N k := fun k hk => gWrites_lo hk
  have u108 : gWrites N l c m 108 = if N 108 < 20 then N 108 + 1 else 20 := by
    unfold gWrites
    rw [if_neg (by omega), if_neg (by omega), if_neg (by omega), if_neg (by omega), if_neg (by omega), if_pos rfl]
    by_cases hc : N 108 < 20
    · rw [if_pos hc, if_pos hc, w32_id (by omega) (by omega)]
    · rw [if_neg hc, if_neg hc, w32_id (by omega) (by omega)]; omega
  have ecount : (if 20 < w32 (h b 13 + 1) then 20 else w32 (h b 13 + 1)) = gWrites N l c m 108 := by
    rw [u108, a5, w32_id (by omega) (by omega)]
    by_cases hc : N 108 < 20
    · rw [if_pos hc, if_neg (by omega)]
    · rw [if_neg hc, if_pos (by omega)]
  rw [ecount]
  generalize hcc : gWrites N l c m 108 = cc at *
  have f : ∀ k, k ≠ 13 → k ≠ 14 → fup (fup (fup (fup (fup (fup h (b + 9) (e * 4) l) (b + 9) (e * 4 + 1) c) (b + 9) (e * 4 + 2) m) (b + 9) (e * 4 + 3) (h b 9)) b 14 (if e + 1 < 20 then e + 1 else 0)) b 13 cc b k = h b k := fun k h1 h2 => by rw [fup_k h1, fup_k h2, fup_a (by omega), fup_a (by omega), fup_a (by omega), fup_a (by omega)]
  have f14 : fup (fup (fup (fup (fup (fup h (b + 9) (e * 4) l) (b + 9) (e * 4 + 1) c) (b + 9) (e * 4 + 2) m) (b + 9) (e * 4 + 3) (h b 9)) b 14 (if e + 1 < 20 then e + 1 else 0)) b 13 cc b 14 = if e + 1 < 20 then e + 1 else 0 := by rw [fup_k (by omega), fup_s]
  have g : ∀ j k, 1 ≤ j → j ≠ 9 → fup (fup (fup (fup (fup (fup h (b + 9) (e * 4) l) (b + 9) (e * 4 + 1) c) (b + 9) (e * 4 + 2) m) (b + 9) (e * 4 + 3) (h b 9)) b 14 (if e + 1 < 20 then e + 1 else 0)) b 13 cc (b + j) k = h (b + j) k := fun j k h1 h2 => by rw [fup_a (by omega), fup_a (by omega), fup_a (by omega), fup_a (by omega), fup_a (by omega), fup_a (by omega)]
  have g9 : ∀ k, fup (fup (fup (fup (fup (fup h (b + 9) (e * 4) l) (b + 9) (e * 4 + 1) c) (b + 9) (e * 4 + 2) m) (b + 9) (e * 4 + 3) (h b 9)) b 14 (if e + 1 < 20 then e + 1 else 0)) b 13 cc (b + 9) k = if k = e * 4 + 3 then h b 9 else if k = e * 4 + 2 then m else if k = e * 4 + 1 then c else if k = e * 4 then l else h (b + 9) k := by
    intro k
    rw [fup_a (by omega), fup_a (by omega)]
    unfold fup
    (repeat' split) <;> first | rfl | (exfalso; omega)
  have f13 : fup (fup (fup (fup (fup (fup h (b + 9) (e * 4) l) (b + 9) (e * 4 + 1) c) (b + 9) (e * 4 + 2) m) (b + 9) (e * 4 + 3) (h b 9)) b 14 (if e + 1 < 20 then e + 1 else 0)) b 13 cc b 13 = cc := fup_s
  generalize fup (fup (fup (fup (fup (fup h (b + 9) (e * 4) l) (b + 9) (e * 4 + 1) c) (b + 9) (e * 4 + 2) m) (b + 9) (e * 4 + 3) (h b 9)) b 14 (if e + 1 < 20 then e + 1 else 0)) b 13 cc = h2 at f f14 f13 g g9 ⊢
  refine ⟨⟨by rw [f 8 (by omega) (by omega), u 3 (by omega)]; exact a1, by rw [f 9 (by omega) (by omega), u 0 (by omega)]; exact a2, by rw [f 10 (by omega) (by omega), u 1 (by omega)]; exact a3, by rw [f 11 (by omega) (by omega), u 2 (by omega)]; exact a4, by rw [f13, hcc], by rw [f14]; split <;> omega, by rw [f14]; split <;> omega, by rw [u 191 (by omega)]; exact a8, by rw [u 189 (by omega)]; exact a9⟩, fun k h1 h3 => ?_, fun i h1 h3 => by rw [g 8 i (by omega) (by omega), u (189 + i) (by omega)]; exact ha i h1 h3, fun k i h1 h3 h4 h5 => ?_, fun m' h1 h3 => ?_⟩
  · rw [u 3 (by omega)] at h3
    rw [g 7 k (by omega) (by omega), u (4 + k) (by omega)]
    exact hw k h1 h3
  · rw [hcc] at h3
    have hcb : cc ≤ 20 ∧ cc ≤ N 108 + 1 := by rw [u108]; split <;> omega
    rw [f14]
    by_cases hk : k = 0
    · have ex : logIx (if e + 1 < 20 then e + 1 else 0) k = e := by
        unfold logIx
        (repeat' split) <;> omega
      rw [ex, g9, hk]
      have hi : i = 0 ∨ i = 1 ∨ i = 2 ∨ i = 3 := by omega
      unfold gWrites
      rcases hi with rfl | rfl | rfl | rfl
      all_goals (repeat' split)
      all_goals first | rfl | (exfalso; omega) | exact a2
    · have ex : logIx (if e + 1 < 20 then e + 1 else 0) k = logIx e (k - 1) := by
        unfold logIx
        (repeat' split) <;> omega
      have exr : 0 ≤ logIx e (k - 1) ∧ logIx e (k - 1) < 20 ∧ logIx e (k - 1) ≠ e := by
        unfold logIx
        split <;> omega
      have hlk := hl (k - 1) i (by omega) (by omega) h4 h5
      rw [ex, g9, if_neg (by omega), if_neg (by omega), if_neg (by omega), if_neg (by omega), hlk]
      unfold gWrites
      rw [if_pos (by omega), show 109 + 4 * (k - 1) + i = 109 + 4 * k + i - 4 from by omega]
  · have q := hmm m' h1 h3
    have o : ∀ w, 0 ≤ w → w < 11 → gOf (gWrites N l c m) m' w = gOf N m' w := fun w h4 h5 => u _ (by omega)
    rw [g 1 _ (by omega) (by omega), g 2 _ (by omega) (by omega), g 3 _ (by omega) (by omega), g 4 _ (by omega) (by omega), g 5 _ (by omega) (by omega), o 0 (by omega) (by omega), o 1 (by omega) (by omega), o 2 (by omega) (by omega), o 3 (by omega) (by omega), o 4 (by omega) (by omega)]
    refine ⟨q.1, fun t h4 h5 => ?_⟩
    rw [g 6 _ (by omega) (by omega), o (5 + t) (by omega) (by omega)]
    exact q.2 t h4 h5
