/-! A ROUND -/
theorem bits64 : ∀ b : Fin 64, ∀ k : Fin 6, (0 ≤ por ((b.val : Nat) : Int) (pshl 1 ((k.val : Nat) : Int)) ∧ por ((b.val : Nat) : Int) (pshl 1 ((k.val : Nat) : Int)) < 64) ∧ por ((b.val : Nat) : Int) 0 = ((b.val : Nat) : Int) ∧ ∀ j : Fin 6, (pand (pshr (por ((b.val : Nat) : Int) (pshl 1 ((k.val : Nat) : Int))) ((j.val : Nat) : Int)) 1 = 1 ↔ j = k ∨ pand (pshr ((b.val : Nat) : Int) ((j.val : Nat) : Int)) 1 = 1) := by decide +kernel
theorem bit01 : ∀ b : Fin 64, ∀ j : Fin 7, (pand (pshr ((b.val : Nat) : Int) ((j.val : Nat) : Int)) 1 = 0 ∨ pand (pshr ((b.val : Nat) : Int) ((j.val : Nat) : Int)) 1 = 1) ∧ (j.val = 6 → pand (pshr ((b.val : Nat) : Int) ((j.val : Nat) : Int)) 1 = 0) := by decide +kernel
theorem bit_zero : ∀ j : Fin 6, pand (pshr 0 ((j.val : Nat) : Int)) 1 = 0 := by decide +kernel
theorem por_rng {b k : Int} (hb : 0 ≤ b) (hb2 : b < 64) (hk : 0 ≤ k) (hk2 : k < 6) : 0 ≤ por b (pshl 1 k) ∧ por b (pshl 1 k) < 64 := by
  have := (bits64 ⟨b.toNat, by omega⟩ ⟨k.toNat, by omega⟩).1
  simp only [Int.toNat_of_nonneg hb, Int.toNat_of_nonneg hk] at this
  exact this
theorem por_0 {b : Int} (hb : 0 ≤ b) (hb2 : b < 64) : por b 0 = b := by
  have := (bits64 ⟨b.toNat, by omega⟩ ⟨0, by omega⟩).2.1
  simp only [Int.toNat_of_nonneg hb] at this
  exact this
theorem por_bit {b k j : Int} (hb : 0 ≤ b) (hb2 : b < 64) (hk : 0 ≤ k) (hk2 : k < 6) (hj : 0 ≤ j) (hj2 : j < 6) : pand (pshr (por b (pshl 1 k)) j) 1 = 1 ↔ j = k ∨ pand (pshr b j) 1 = 1 := by
  have := (bits64 ⟨b.toNat, by omega⟩ ⟨k.toNat, by omega⟩).2.2 ⟨j.toNat, by omega⟩
  simp only [Int.toNat_of_nonneg hb, Int.toNat_of_nonneg hk, Int.toNat_of_nonneg hj, Fin.mk.injEq] at this
  rw [this]
  constructor
  · rintro (h | h)
    · exact Or.inl (by omega)
    · exact Or.inr h
  · rintro (h | h)
    · exact Or.inl (by omega)
    · exact Or.inr h
theorem pand_01 {b j : Int} (hb : 0 ≤ b) (hb2 : b < 64) (hj : 0 ≤ j) (hj2 : j < 7) : pand (pshr b j) 1 = 0 ∨ pand (pshr b j) 1 = 1 := by
  have := (bit01 ⟨b.toNat, by omega⟩ ⟨j.toNat, by omega⟩).1
  simp only [Int.toNat_of_nonneg hb, Int.toNat_of_nonneg hj] at this
  exact this
theorem bit0 {j : Int} (hj : 0 ≤ j) (hj2 : j < 6) : pand (pshr 0 j) 1 = 0 := by
  have := bit_zero ⟨j.toNat, by omega⟩
  simp only [Int.toNat_of_nonneg hj] at this
  exact this
def gByF (T N : Int → Int) (w m b : Int) : Int := por b (if w ≠ -1 ∧ gWant T N m = w then pshl 1 m else 0)
def gBy (T N : Int → Int) (w : Int) : Int := upto (gByF T N w) (T 1).toNat 0
theorem gByU {T N : Int → Int} {w : Int} : ∀ n : Nat, n ≤ 6 → (0 ≤ upto (gByF T N w) n 0 ∧ upto (gByF T N w) n 0 < 64) ∧ ∀ j : Int, 0 ≤ j → j < 6 → (pand (pshr (upto (gByF T N w) n 0) j) 1 = 1 ↔ j < n ∧ w ≠ -1 ∧ gWant T N j = w)
  | 0, _ => ⟨⟨by show (0 : Int) ≤ 0; omega, by show (0 : Int) < 64; omega⟩, fun j hj hj2 => by show pand (pshr 0 j) 1 = 1 ↔ _; rw [bit0 hj hj2]; constructor; intro z; omega; rintro ⟨z, _⟩; omega⟩
  | n + 1, hn => by
    have ih := gByU (T := T) (N := N) (w := w) n (by omega)
    show (0 ≤ gByF T N w n (upto (gByF T N w) n 0) ∧ gByF T N w n (upto (gByF T N w) n 0) < 64) ∧ ∀ j : Int, 0 ≤ j → j < 6 → (pand (pshr (gByF T N w n (upto (gByF T N w) n 0)) j) 1 = 1 ↔ _)
    generalize upto (gByF T N w) n 0 = u at ih ⊢
    unfold gByF
    by_cases hc : w ≠ -1 ∧ gWant T N n = w
    · rw [if_pos hc]
      refine ⟨por_rng ih.1.1 ih.1.2 (by omega) (by omega), fun j hj hj2 => ?_⟩
      rw [por_bit ih.1.1 ih.1.2 (by omega) (by omega) hj hj2]
      have i2 := ih.2 j hj hj2
      rw [i2]
      constructor
      · rintro (z | z)
        · subst z; exact ⟨by omega, hc⟩
        · exact ⟨by omega, z.2⟩
      · rintro ⟨z1, z2⟩
        by_cases hjn : j = n
        · exact Or.inl hjn
        · exact Or.inr ⟨by omega, z2⟩
    · rw [if_neg hc, por_0 ih.1.1 ih.1.2]
      refine ⟨ih.1, fun j hj hj2 => ?_⟩
      have i2 := ih.2 j hj hj2
      rw [i2]
      constructor
      · rintro ⟨z1, z2⟩; exact ⟨by omega, z2⟩
      · rintro ⟨z1, z2⟩
        by_cases hjn : j = n
        · subst hjn; exact absurd z2 hc
        · exact ⟨by omega, z2⟩
/-- the best letter, and the price -/
theorem gBest2_ok {T N : Int → Int} (n : Nat) : ((upto (gBestF T N) n (-1, 0)).1 = -1 ∧ (upto (gBestF T N) n (-1, 0)).2 = 0 ∨ (0 ≤ (upto (gBestF T N) n (-1, 0)).1 ∧ (upto (gBestF T N) n (-1, 0)).1 < n ∧ (upto (gBestF T N) n (-1, 0)).2 = gSum T N (upto (gBestF T N) n (-1, 0)).1 ∧ 0 < (upto (gBestF T N) n (-1, 0)).2)) ∧ ∀ l, 0 ≤ l → l < n → gSum T N l ≤ (upto (gBestF T N) n (-1, 0)).2 := by
  refine upto_ind (P := fun (k : Nat) (p : Int × Int) => (p.1 = -1 ∧ p.2 = 0 ∨ (0 ≤ p.1 ∧ p.1 < k ∧ p.2 = gSum T N p.1 ∧ 0 < p.2)) ∧ ∀ l, 0 ≤ l → l < k → gSum T N l ≤ p.2) ⟨Or.inl ⟨rfl, rfl⟩, fun l hl hl2 => by omega⟩ n (fun k p hk ⟨h1, h2⟩ => ?_)
  unfold gBestF
  by_cases hc : p.2 < gSum T N k
  · rw [if_pos hc]
    refine ⟨Or.inr ⟨by show 0 ≤ (k : Int); omega, by show (k : Int) < ((k + 1 : Nat) : Int); omega, rfl, by show 0 < gSum T N k; omega⟩, fun l hl hl2 => ?_⟩
    show gSum T N l ≤ gSum T N k
    by_cases hlk : l = k
    · rw [hlk]; omega
    · have := h2 l hl (by omega); omega
  · rw [if_neg hc]
    refine ⟨by rcases h1 with z | z; exact Or.inl z; exact Or.inr ⟨z.1, by omega, z.2.2⟩, fun l hl hl2 => ?_⟩
    by_cases hlk : l = k
    · rw [hlk]; omega
    · exact h2 l hl (by omega)
theorem gBest_ok {T N : Int → Int} (hT : TWf T) (hN : NWf T N) : (gBest T N = -1 ∨ (0 ≤ gBest T N ∧ gBest T N < T 0)) ∧ LPd T N (gBest T N) (gPrice T N (gBest T N)) := by
  have hT0 := hT.1
  have h := gBest2_ok (T := T) (N := N) (T 0).toNat
  have e : (upto (gBestF T N) (T 0).toNat (-1, 0)).1 = gBest T N := rfl
  rw [e] at h
  rcases h with ⟨h1 | h1, h2⟩
  · exact ⟨Or.inl h1.1, Or.inl ⟨h1.1, by unfold gPrice; rw [if_pos h1.1]⟩⟩
  · refine ⟨Or.inr ⟨h1.1, by omega⟩, Or.inr ⟨by omega, by omega, ?_⟩⟩
    have hw : gBest T N ≠ -1 := by omega
    unfold gPrice
    rw [if_neg hw]
    generalize gBest T N = w at *
    refine upto_ind (P := fun _ a => 0 ≤ a ∧ a ≤ gSum T N w) ⟨by omega, by omega⟩ _ (fun k x hk hx => ?_)
    unfold gPriceF
    split
    · rename_i hc
      have := h2 k (by omega) (by omega)
      exact ⟨by omega, by omega⟩
    · exact hx
/-- what is paid doesn't hang on what stood there before, and is no more than the bid -/
def peq (T : Int → Int) (p q : (Int → Int) × Int) : Prop := p.2 = q.2 ∧ ∀ m, 0 ≤ m → m < T 1 → p.1 m = q.1 m
theorem gPassF_peq {T N : Int → Int} {w m : Int} {p q : (Int → Int) × Int} (hm : 0 ≤ m) (hm2 : m < T 1) (h : peq T p q) : peq T (gPassF T N w m p) (gPassF T N w m q) := by
  unfold gPassF
  rw [h.1, h.2 m hm hm2]
  split
  · refine ⟨by show q.2 - 1 = q.2 - 1; rfl, fun k hk hk2 => ?_⟩
    show up1 p.1 m _ k = up1 q.1 m _ k
    unfold up1
    rw [h.2 k hk hk2]
  · exact h
theorem gPass_peq {T N : Int → Int} {w : Int} {p q : (Int → Int) × Int} (h : peq T p q) : ∀ n : Nat, (n : Int) ≤ T 1 → peq T (upto (gPassF T N w) n p) (upto (gPassF T N w) n q)
  | 0, _ => h
  | n + 1, hn => gPassF_peq (by omega) (by omega) (gPass_peq h n (by omega))
theorem gPasses_peq {T N : Int → Int} {w : Int} (hT1 : 0 ≤ T 1) : ∀ (n : Nat) (p q : (Int → Int) × Int), peq T p q → peq T (gPasses T N w n p) (gPasses T N w n q)
  | 0, p, q, h => h
  | n + 1, p, q, h => by
    show peq T (if p.2 ≤ 0 then p else gPasses T N w n (gPass T N w p)) (if q.2 ≤ 0 then q else gPasses T N w n (gPass T N w q))
    rw [h.1]
    split
    · exact h
    · exact gPasses_peq hT1 n _ _ (gPass_peq h _ (by omega))
theorem gPd1_peq {T N : Int → Int} {w pr : Int} {P P' : Int → Int} (hT1 : T 1 ≤ 4) : peq T (upto (gPd1F T N w pr) 4 (P, pr)) (upto (gPd1F T N w pr) 4 (P', pr)) := by
  have h1 := gPd1_eq (T := T) (N := N) (w := w) (pr := pr) (P := P) 4
  have h2 := gPd1_eq (T := T) (N := N) (w := w) (pr := pr) (P := P') 4
  refine ⟨by rw [h1.1, h2.1], fun m hm hm2 => ?_⟩
  have e1 := h1.2 m.toNat (by omega)
  have e2 := h2.2 m.toNat (by omega)
  rw [Int.toNat_of_nonneg hm] at e1 e2
  rw [e1, e2]
theorem gPaid_ind {T N : Int → Int} {w pr m : Int} {P P' : Int → Int} (hT : TWf T) (hm : 0 ≤ m) (hm2 : m < T 1) : gPaid T N w pr P m = gPaid T N w pr P' m := (gPasses_peq hT.2.1.1 _ _ _ (gPd1_peq hT.2.1.2)).2 m hm hm2
theorem gPassF_bd {T N : Int → Int} {w m : Int} {p : (Int → Int) × Int} (h : ∀ k, 0 ≤ k → k < T 1 → 0 ≤ p.1 k ∧ p.1 k ≤ gBid T N k) (k : Int) (hk : 0 ≤ k) (hk2 : k < T 1) : 0 ≤ (gPassF T N w m p).1 k ∧ (gPassF T N w m p).1 k ≤ gBid T N k := by
  have h1 := h k hk hk2
  unfold gPassF
  split
  · rename_i hc
    show 0 ≤ up1 p.1 m (p.1 m + 1) k ∧ up1 p.1 m (p.1 m + 1) k ≤ gBid T N k
    by_cases hkm : k = m
    · subst hkm; rw [up1_s]; omega
    · rw [up1_k hkm]; exact h1
  · exact h1
theorem gPasses_bd {T N : Int → Int} {w : Int} : ∀ (n : Nat) (p : (Int → Int) × Int), (∀ k, 0 ≤ k → k < T 1 → 0 ≤ p.1 k ∧ p.1 k ≤ gBid T N k) → ∀ k, 0 ≤ k → k < T 1 → 0 ≤ (gPasses T N w n p).1 k ∧ (gPasses T N w n p).1 k ≤ gBid T N k
  | 0, p, h => h
  | n + 1, p, h => by
    show ∀ k, 0 ≤ k → k < T 1 → 0 ≤ (if p.2 ≤ 0 then p else gPasses T N w n (gPass T N w p)).1 k ∧ (if p.2 ≤ 0 then p else gPasses T N w n (gPass T N w p)).1 k ≤ gBid T N k
    split
    · exact h
    · exact gPasses_bd n _ (upto_ind (P := fun _ (p : (Int → Int) × Int) => ∀ k, 0 ≤ k → k < T 1 → 0 ≤ p.1 k ∧ p.1 k ≤ gBid T N k) h _ (fun i q hi hq => gPassF_bd hq))
theorem gPaid_bd {T N : Int → Int} {w pr : Int} {P : Int → Int} (hT : TWf T) (hN : NWf T N) (hl : LPd T N w pr) (m : Int) (hm : 0 ≤ m) (hm2 : m < T 1) : 0 ≤ gPaid T N w pr P m ∧ gPaid T N w pr P m ≤ gBid T N m := by
  have hT1 := hT.2.1
  refine gPasses_bd _ _ (fun k hk hk2 => ?_) m hm hm2
  have e := (gPd1_eq (T := T) (N := N) (w := w) (pr := pr) (P := P) 4).2 k.toNat (by omega)
  rw [Int.toNat_of_nonneg hk] at e
  rw [e]
  have := gPd_rng hT hN hk hl
  exact ⟨this.1, this.2.2 hk2⟩
theorem wm_same {T N N' : Int → Int} (hT : TWf T) (h : MWf T N) (he : ∀ k, k = 1 ∨ (64 ≤ k ∧ k < 108) → N' k = N k) : MWf T N' := by
  have hT1 := hT.2.1
  have e : ∀ m, 0 ≤ m → m < T 1 → ∀ w, 0 ≤ w → w < 11 → gOf N' m w = gOf N m w := fun m hm hm2 w hw hw2 => he _ (Or.inr (by omega))
  have et : ∀ n : Nat, (n : Int) ≤ T 1 → gTot N' n = gTot N n := by
    intro n
    induction n with
    | zero => exact fun _ => he 1 (Or.inl rfl)
    | succ n ih => intro hn; rw [gTot_S, gTot_S, ih (by omega), e n (by omega) (by omega) 1 (by omega) (by omega)]
  refine ⟨fun m hm hm2 => ?_, by rw [he 1 (Or.inl rfl)]; exact h.2.1, by rw [et _ (by omega)]; exact h.2.2⟩
  have h1 := h.1 m hm hm2
  rw [e m hm hm2 0 (by omega) (by omega), e m hm hm2 1 (by omega) (by omega), e m hm hm2 2 (by omega) (by omega)]
  refine ⟨h1.1, h1.2.1, h1.2.2.1, fun t ht ht2 => ?_⟩
  rw [e m hm hm2 (5 + t) (by omega) (by omega)]
  exact h1.2.2.2 t ht ht2
theorem gWrites_lo {N : Int → Int} {l p b k : Int} (h : k < 108 ∨ 189 ≤ k) : gWrites N l p b k = N k := by
  unfold gWrites
  rw [if_neg (by omega), if_neg (by omega), if_neg (by omega), if_neg (by omega), if_neg (by omega), if_neg (by omega)]
def gPayF (P : Int → Int) (m : Int) (N : Int → Int) : Int → Int := gChest N m (P m) 0
def gR1 (T N : Int → Int) (w pr b : Int) (P : Int → Int) : Int → Int := upto (gPayF P) (T 1).toNat (gWrites N w pr b)
theorem gR1_ok {T N : Int → Int} {w pr b : Int} {P : Int → Int} (hT : TWf T) (hM : MWf T N) (hP : ∀ m, 0 ≤ m → m < T 1 → 0 ≤ P m ∧ P m ≤ gOf N m 1) : ∀ n : Nat, (n : Int) ≤ T 1 → MWf T (upto (gPayF P) n (gWrites N w pr b)) ∧ (∀ m, 0 ≤ m → m < T 1 → ∀ v, 0 ≤ v → v < 11 → gOf (upto (gPayF P) n (gWrites N w pr b)) m v = if m < n ∧ v = 1 then gOf N m 1 - P m else gOf N m v) ∧ ∀ k, k ≠ 1 → k ≠ 189 → k < 64 ∨ 108 ≤ k → upto (gPayF P) n (gWrites N w pr b) k = gWrites N w pr b k := by
  have hT1 := hT.2.1
  intro n
  induction n with
  | zero =>
    intro _
    refine ⟨wm_same hT hM (fun k hk => gWrites_lo (by omega)), fun m hm hm2 v hv hv2 => ?_, fun k _ _ _ => rfl⟩
    rw [if_neg (by omega)]
    exact gWrites_lo (by omega)
  | succ n ih =>
    intro hn
    obtain ⟨i1, i2, i3⟩ := ih (by omega)
    have e : upto (gPayF P) (n + 1) (gWrites N w pr b) = gChest (upto (gPayF P) n (gWrites N w pr b)) n (P n) 0 := rfl
    have en : gOf (upto (gPayF P) n (gWrites N w pr b)) n 1 = gOf N n 1 := by rw [i2 n (by omega) (by omega) 1 (by omega) (by omega), if_neg (by omega)]
    have hp := hP n (by omega) (by omega)
    rw [e]
    refine ⟨wm_chest hT i1 (by omega) (by omega) hp.1 (by rw [en]; exact hp.2) (by omega) (by omega), fun m hm hm2 v hv hv2 => ?_, fun k hk hk2 hk3 => ?_⟩
    · unfold gChest
      rw [gOf_k (by omega), gOf_k (by omega)]
      by_cases hc : m = n ∧ v = 1
      · rw [hc.1, hc.2, gOf_s, en, if_pos (by omega)]
      · rw [gOf_k (by omega), i2 m hm hm2 v hv hv2]
        by_cases hd : m < n ∧ v = 1
        · rw [if_pos hd, if_pos (by omega)]
        · rw [if_neg hd, if_neg (by omega)]
    · unfold gChest
      rw [up1_k (by omega), up1_k (by omega), up1_k (by omega)]
      exact i3 k hk hk2 hk3
def gRw (T N : Int → Int) : Int := gBest T N
def gRp (T N : Int → Int) : Int := gPrice T N (gBest T N)
def gRb (T N : Int → Int) : Int := gBy T N (gBest T N)
def gRP (T N : Int → Int) : Int → Int := gPaid T N (gRw T N) (gRp T N) (fun _ => 0)
def gRa (T N : Int → Int) : Int → Int := gR1 T N (gRw T N) (gRp T N) (gRb T N) (gRP T N)
def gRs (T N : Int → Int) : Int → Int := if gRw T N = -1 then up1 (gRa T N) 194 (w32 (gRa T N 194 + 1)) else gSays T (gRa T N) (gRw T N) (gRb T N)
def gRo (T N : Int → Int) : Int → Int := up1 (gRs T N) 0 (w32 (gRs T N 0 + 1))
def gRound (T N : Int → Int) : Int → Int := if 0 < T 1 ∧ prem (gRo T N 0) (T 2) = 0 then gTurns T (gRo T N) else gRo T N
