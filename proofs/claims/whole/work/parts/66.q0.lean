/-! APPENDING TO THE TEXT -/
theorem w8_rng {x : Int} : -128 ≤ w8 x ∧ w8 x ≤ 127 := by
  unfold w8
  have h1 := Int.le_bmod (x := x) (m := 256) (by omega)
  have h2 := Int.bmod_lt (x := x) (m := 256) (by omega)
  omega
/-- four bytes behind a row's first n -/
def pb4 (g : Int → Int) (n v : Int) : Int → Int := up1 (up1 (up1 (up1 g n (w8 (w8 (pshr v 24)))) (n + 1) (w8 (w8 (pshr v 16)))) (n + 1 + 1) (w8 (w8 (pshr v 8)))) (n + 1 + 1 + 1) (w8 (w8 (pshr v 0)))
theorem fup_self2 {f : PF} {a k v : Int} : fup f a k v a = up1 (f a) k v := by
  funext k'
  unfold fup up1
  by_cases h : k' = k
  · rw [if_pos ⟨rfl, h⟩, if_pos h]
  · rw [if_neg (fun z => h z.2), if_neg h]
theorem putB_row {h : PF} {o k a v : Int} (hoa : o ≠ a) : putB h o k a v a = pb4 (h a) (h o k) v := by
  have hao : a ≠ o := fun z => hoa z.symm
  unfold putB pb4
  rw [fup_r hao, fup_self2, fup_r hao, fup_self2, fup_r hao, fup_self2, fup_r hao, fup_self2]
def Agr (g g' : Int → Int) (n : Int) : Prop := ∀ k, 0 ≤ k → k < n → g k = g' k ∧ -128 ≤ g' k ∧ g' k ≤ 127
theorem agr_up {g g' : Int → Int} {n v : Int} (h : Agr g g' n) (hn : 0 ≤ n) : Agr (up1 g n (w8 v)) (up1 g' n (w8 v)) (n + 1) := by
  intro k h1 h2
  by_cases hk : k = n
  · rw [hk, up1_s, up1_s]; exact ⟨rfl, w8_rng⟩
  · rw [up1_k hk, up1_k hk]; exact h k h1 (by omega)
theorem agr_pb4 {g g' : Int → Int} {n v : Int} (h : Agr g g' n) (hn : 0 ≤ n) : Agr (pb4 g n v) (pb4 g' n v) (n + 1 + 1 + 1 + 1) := by
  unfold pb4
  exact agr_up (agr_up (agr_up (agr_up h hn) (by omega)) (by omega)) (by omega)
def put5 (h : PF) (o k a v1 v2 v3 v4 v5 : Int) : PF := putB (putB (putB (putB (putB h o k a v1) o k a v2) o k a v3) o k a v4) o k a v5
theorem put5_r {h : PF} {o k a v1 v2 v3 v4 v5 a' : Int} (h1 : a' ≠ o) (h2 : a' ≠ a) : put5 h o k a v1 v2 v3 v4 v5 a' = h a' := by
  unfold put5
  rw [putB_a h1 h2, putB_a h1 h2, putB_a h1 h2, putB_a h1 h2, putB_a h1 h2]
theorem put5_k {h : PF} {o k a v1 v2 v3 v4 v5 k' : Int} (h1 : k' ≠ k) (h2 : o ≠ a) : put5 h o k a v1 v2 v3 v4 v5 o k' = h o k' := by
  unfold put5
  rw [putB_k h1 h2, putB_k h1 h2, putB_k h1 h2, putB_k h1 h2, putB_k h1 h2]
theorem put5_o {h : PF} {o k a v1 v2 v3 v4 v5 : Int} : put5 h o k a v1 v2 v3 v4 v5 o k = h o k + 20 := by
  unfold put5
  rw [putB_o, putB_o, putB_o, putB_o, putB_o]
  omega
def pb20 (g : Int → Int) (n v1 v2 v3 v4 v5 : Int) : Int → Int := pb4 (pb4 (pb4 (pb4 (pb4 g n v1) (n + 4) v2) (n + 8) v3) (n + 12) v4) (n + 16) v5
theorem put5_row {h : PF} {o k a v1 v2 v3 v4 v5 : Int} (hoa : o ≠ a) : put5 h o k a v1 v2 v3 v4 v5 a = pb20 (h a) (h o k) v1 v2 v3 v4 v5 := by
  unfold put5 pb20
  rw [putB_row hoa, putB_row hoa, putB_row hoa, putB_row hoa, putB_row hoa]
  simp only [putB_o, Int.add_assoc, Int.reduceAdd]
theorem agr_pb20 {g g' : Int → Int} {n v1 v2 v3 v4 v5 : Int} (h : Agr g g' n) (hn : 0 ≤ n) : Agr (pb20 g n v1 v2 v3 v4 v5) (pb20 g' n v1 v2 v3 v4 v5) (n + 20) := by
  unfold pb20
  have h1 := agr_pb4 (v := v1) h hn
  rw [show n + 1 + 1 + 1 + 1 = n + 4 from by omega] at h1
  have h2 := agr_pb4 (v := v2) h1 (by omega)
  rw [show n + 4 + 1 + 1 + 1 + 1 = n + 8 from by omega] at h2
  have h3 := agr_pb4 (v := v3) h2 (by omega)
  rw [show n + 8 + 1 + 1 + 1 + 1 = n + 12 from by omega] at h3
  have h4 := agr_pb4 (v := v4) h3 (by omega)
  rw [show n + 12 + 1 + 1 + 1 + 1 = n + 16 from by omega] at h4
  have h5 := agr_pb4 (v := v5) h4 (by omega)
  rw [show n + 16 + 1 + 1 + 1 + 1 = n + 20 from by omega] at h5
  exact h5
theorem inv_app {h H r : PF} {v1 v2 v3 v4 v5 : Int} (hI : Inv h r) (h58 : h 2 0 ≤ 580) (hc : ∀ a, a ≠ 2 → a ≠ 3 → a ≠ 178 → a ≠ 181 → H a = h a) (h20 : H 2 0 = h 2 0 + 20) (h22 : H 2 2 = h 2 2) (h4 : H 178 4 = h 2 0 + 20) (h12 : H 178 12 = h 178 12) (h26 : H 178 26 = h 178 26) (h3 : H 3 = pb20 (h 3) (h 2 0) v1 v2 v3 v4 v5) (h181 : H 181 = pb20 (h 181) (h 2 0) v1 v2 v3 v4 v5) : Inv H r := by
  obtain ⟨hr, hT, hN, hR, hS, ⟨u1, u2, u3, u4⟩, hL, ⟨x1, x2, x3, x4⟩, hF⟩ := hI
  have e179 : H 179 = h 179 := hc 179 (by omega) (by omega) (by omega) (by omega)
  have e180 : H 180 = h 180 := hc 180 (by omega) (by omega) (by omega) (by omega)
  have e192 : H 192 = h 192 := hc 192 (by omega) (by omega) (by omega) (by omega)
  have e21 : H 21 = h 21 := hc 21 (by omega) (by omega) (by omega) (by omega)
  have ha : Agr (h 3) (h 181) (h 2 0) := x3
  unfold Inv
  rw [e179, e180]
  refine ⟨hr, hT, hN, pr_fr (fun a h1 h2 => hc a (by rcases hr.2.1 with z | z <;> omega) (by rcases hr.2.1 with z | z <;> omega) (by rcases hr.2.1 with z | z <;> omega) (by rcases hr.2.1 with z | z <;> omega)) hR, sr_fr (fun a h1 h2 => hc a (by omega) (by omega) (by omega) (by omega)) hS, ?_, slot_fr hL (by rw [e21]) (hc 194 (by omega) (by omega) (by omega) (by omega)) (hc 193 (by omega) (by omega) (by omega) (by omega)) (fun a h1 h2 => hc a (by omega) (by omega) (by omega) (by omega)), ?_, search_fr hF (hc 15 (by omega) (by omega) (by omega) (by omega)) (hc 16 (by omega) (by omega) (by omega) (by omega)) (hc 17 (by omega) (by omega) (by omega) (by omega))⟩
  · unfold UndoRel
    rw [e21, h26]
    refine ⟨u1, u2, u3, fun q h1 h2 => ?_⟩
    have hb := undoB_rng u3.1 u3.2 u2.1 u2.2 h1 h2
    have eu : uRow H 192 q = uRow h 192 q := by unfold uRow; rw [e192]
    rw [eu]
    exact ⟨sr_fr (fun a h3 h4 => hc a (by omega) (by omega) (by omega) (by omega)) (u4 q h1 h2).1, (u4 q h1 h2).2⟩
  · unfold TextRel
    rw [h20, h4, h22, h12, h3, h181]
    exact ⟨by omega, rfl, agr_pb20 ha (by omega), x4⟩
theorem Q_0 {i : Int} {l5 l6 : Option PV} {nx : Nat} {h r : PF} {s : Int → Int} {Q : PO → PY → Nat → PC → Prop} (hI : Inv h r) (hi : 0 ≤ i) (hi2 : i + 5 < s (-1)) (hi3 : s (-1) ≤ 4000) (H : ∀ (a b : Option PV) (nx' : Nat) (h' r' : PF), Inv h' r' → nx' ≤ nx + 1 → Wp 257 2079 [some (pR (-1000)), some (pR 1), some (pR 178), some (pR 195), some (pI i), a, b, none] [] LY nx' (h', r', s) Q) : Wp 257 192 [some (pR (-1000)), some (pR 1), some (pR 178), some (pR 195), some (pI i), l5, l6, none] [] LY nx (h, r, s) Q := by
  obtain ⟨hW, hp0, hp1, hp2, hpk, hP, hS0, hk144, hT, hN, hR, hS, ep0, ep1, ep3, ep4, hT0, hT1⟩ := beg_of hI
  have k153 : kd LY 153 = (1, 80) := by decide +kernel
  have k152 : kd LY 152 = (1, 6) := by decide +kernel
  have k151 : kd LY 151 = (1, 60) := by decide +kernel
  obtain ⟨⟨hs0, hsk⟩, ⟨hsr0, hsp0, hsd0⟩, ⟨hsr1, hsp1, hsd1⟩, ⟨hsr2, hsp2, hsd2⟩, ⟨hsr3, hsp3, hsd3⟩, ⟨hsr4, hsp4, hsd4⟩, ⟨hsr5, hsp5, hsd5⟩, ⟨hsr6, hsp6, hsd6⟩, ⟨hsr7, hsp7, hsd7⟩, ⟨hsr12, hsp12, hsd12⟩⟩ := stok_144 hW
  obtain ⟨x1, x2, x3, x4⟩ := hI.2.2.2.2.2.2.2.1
  by_cases hb : 580 < h 2 0
  · simp (disch := first | assumption | omega | (simp (disch := omega) only [fup_s, fup_k, fup_a, fup_r, frow_s, frow_r, frow_sk, frow_rk, fcpy_r, frng_r]; assumption) | (simp (disch := omega) only [fup_s, fup_k, fup_a, fup_r, frow_s, frow_r, frow_sk, frow_rk, fcpy_r, frng_r]; omega)) only [st_law_0, ↓if_pos, ↓if_neg, if_pos, if_neg, ↓reduceIte, true_and, and_true, false_and, and_false, true_or, or_true, false_or, or_false, w32_id, Kv, Kn, fup_s, fup_a, fup_k, fup_fup, Int.reduceAdd, Int.reduceSub, Int.reduceMul, Int.reduceNeg, S_thrown, fup_s, fup_k, fup_a, fup_r, frow_s, frow_r, frow_sk, frow_rk, fcpy_r, frng_r, plcmp_eq, S_append, M_append]
    all_goals ((try split) <;> exact H _ _ _ _ _ (inv_same hI ⟨fun a ha => by unfold Core at ha; simp (disch := omega) only [fup_r, frow_r], by simp (disch := omega) only [fup_k, fup_a, frow_rk], by simp (disch := omega) only [fup_k, fup_a, frow_rk], by simp (disch := omega) only [fup_k, fup_a, frow_rk]⟩) (by omega))
  · have ep : ∀ (f : PF) (o k a v1 v2 v3 v4 v5 : Int), putB (putB (putB (putB (putB f o k a v1) o k a v2) o k a v3) o k a v4) o k a v5 = put5 f o k a v1 v2 v3 v4 v5 := fun _ _ _ _ _ _ _ _ _ => rfl
    simp (disch := first | assumption | omega | (simp (disch := omega) only [fup_s, fup_k, fup_a, fup_r, frow_s, frow_r, frow_sk, frow_rk, fcpy_r, frng_r, put5_r, put5_k, put5_o]; assumption) | (simp (disch := omega) only [fup_s, fup_k, fup_a, fup_r, frow_s, frow_r, frow_sk, frow_rk, fcpy_r, frng_r, put5_r, put5_k, put5_o]; omega) | (simp (disch := omega) only [fup_s, fup_k, fup_a, fup_r, frow_s, frow_r, frow_sk, frow_rk, fcpy_r, frng_r, put5_r, put5_k, put5_o, x2]; omega)) only [st_law_0, ↓if_pos, ↓if_neg, if_pos, if_neg, ↓reduceIte, true_and, and_true, false_and, and_false, true_or, or_true, false_or, or_false, w32_id, Kv, Kn, fup_s, fup_a, fup_k, fup_fup, Int.reduceAdd, Int.reduceSub, Int.reduceMul, Int.reduceNeg, S_thrown, fup_s, fup_k, fup_a, fup_r, frow_s, frow_r, frow_sk, frow_rk, fcpy_r, frng_r, plcmp_eq, S_append, M_append, ep, put5_r, put5_k, put5_o, x2]
    refine H _ _ _ _ _ (inv_app (v1 := s (i + 1)) (v2 := s (i + 2)) (v3 := s (i + 3)) (v4 := s (i + 4)) (v5 := s (i + 5)) hI (by omega) (fun a g1 g2 g3 g4 => ?_) ?_ ?_ ?_ ?_ ?_ ?_ ?_) (by omega)
    · simp (disch := omega) only [fup_s, fup_k, fup_a, fup_r, frow_s, frow_r, frow_sk, frow_rk, fcpy_r, frng_r, put5_r]
    · simp (disch := omega) only [fup_s, fup_k, fup_a, fup_r, frow_s, frow_r, frow_sk, frow_rk, fcpy_r, frng_r, put5_r, put5_k, put5_o, x2]
    · simp (disch := omega) only [fup_s, fup_k, fup_a, fup_r, frow_s, frow_r, frow_sk, frow_rk, fcpy_r, frng_r, put5_r, put5_k, put5_o, x2]
    · simp (disch := omega) only [fup_s, fup_k, fup_a, fup_r, frow_s, frow_r, frow_sk, frow_rk, fcpy_r, frng_r, put5_r, put5_k, put5_o, x2]
    · simp (disch := omega) only [fup_s, fup_k, fup_a, fup_r, frow_s, frow_r, frow_sk, frow_rk, fcpy_r, frng_r, put5_r, put5_k, put5_o, x2]
    · simp (disch := omega) only [fup_s, fup_k, fup_a, fup_r, frow_s, frow_r, frow_sk, frow_rk, fcpy_r, frng_r, put5_r, put5_k, put5_o, x2]
    · rw [put5_r (by omega) (by omega), fup_r (by omega), put5_row (by omega)]
    · rw [put5_row (by omega)]
      simp (disch := omega) only [fup_s, fup_k, fup_a, fup_r, frow_s, frow_r, frow_sk, frow_rk, fcpy_r, frng_r, put5_r, put5_k, put5_o, x2]
