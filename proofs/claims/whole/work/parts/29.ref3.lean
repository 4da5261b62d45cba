/-- a row with one place new -/
def up1 (g : Int → Int) (k v : Int) : Int → Int := fun j => if j = k then v else g j
theorem up1_s {g : Int → Int} {k v : Int} : up1 g k v k = v := if_pos rfl
theorem up1_k {g : Int → Int} {k v j : Int} (h : j ≠ k) : up1 g k v j = g j := if_neg h
theorem fup_frow {h : PF} {a k v : Int} {g : Int → Int} : fup (frow h a g) a k v = frow h a (up1 g k v) := by
  funext a' k'
  unfold fup frow up1
  by_cases h1 : a' = a
  · by_cases h2 : k' = k
    · rw [if_pos ⟨h1, h2⟩, if_pos h1, if_pos h2]
    · rw [if_neg (fun z => h2 z.2), if_pos h1, if_pos h1, if_neg h2]
  · rw [if_neg (fun z => h1 z.1), if_neg h1, if_neg h1]
theorem frow_self {h : PF} {a : Int} : frow h a (h a) = h := by
  funext a' k'
  unfold frow
  by_cases h1 : a' = a
  · rw [if_pos h1, h1]
  · rw [if_neg h1]
theorem frow_frow {h : PF} {a : Int} {g g2 : Int → Int} : frow (frow h a g) a g2 = frow h a g2 := by
  funext a' k'
  unfold frow
  by_cases h1 : a' = a
  · rw [if_pos h1, if_pos h1]
  · rw [if_neg h1, if_neg h1, if_neg h1]
theorem frow_sk {h : PF} {a k : Int} {g : Int → Int} : frow h a g a k = g k := by rw [frow_s]
theorem frow_rk {h : PF} {a a' k : Int} {g : Int → Int} (h1 : a' ≠ a) : frow h a g a' k = h a' k := by rw [frow_r h1]
theorem pdiv_nn {x y : Int} (hx : 0 ≤ x) (hx2 : x < 2147483648) (hy : 0 < y) (hy2 : y < 2147483648) : pdiv x y = x / y := by
  unfold pdiv
  rw [Int32.toInt_div, Int32.toInt_ofInt, Int32.toInt_ofInt]
  show w32 (Int.tdiv (w32 x) (w32 y)) = x / y
  rw [w32_id (by omega) hx2, w32_id (by omega) hy2, Int.tdiv_eq_ediv_of_nonneg hx]
  have h1 : 0 ≤ x / y := Int.ediv_nonneg hx (by omega)
  have h2 : x / y ≤ x := Int.ediv_le_self y hx
  exact w32_id (by omega) (by omega)
/-- what is paid at first, and then coin by coin -/
def gPd (T N : Int → Int) (w pr m : Int) : Int := if m < T 1 ∧ w ≠ -1 ∧ gWant T N m = w then pr * gBid T N m / gSum T N w else 0
def gPd1F (T N : Int → Int) (w pr m : Int) (p : (Int → Int) × Int) : (Int → Int) × Int := (up1 p.1 m (gPd T N w pr m), p.2 - gPd T N w pr m)
def gPassF (T N : Int → Int) (w m : Int) (p : (Int → Int) × Int) : (Int → Int) × Int := if 0 < p.2 ∧ gWant T N m = w ∧ p.1 m < gBid T N m then (up1 p.1 m (p.1 m + 1), p.2 - 1) else p
def gPass (T N : Int → Int) (w : Int) (p : (Int → Int) × Int) : (Int → Int) × Int := upto (gPassF T N w) (T 1).toNat p
def gPasses (T N : Int → Int) (w : Int) : Nat → (Int → Int) × Int → (Int → Int) × Int
  | 0, p => p
  | n + 1, p => if p.2 ≤ 0 then p else gPasses T N w n (gPass T N w p)
def gPaid (T N : Int → Int) (w pr : Int) (P : Int → Int) : Int → Int := (gPasses T N w pr.toNat (upto (gPd1F T N w pr) 4 (P, pr))).1
/-- the coins that the takers could still pay -/
def gRoomF (T N : Int → Int) (w : Int) (P : Int → Int) (m a : Int) : Int := a + (if gWant T N m = w then gBid T N m - P m else 0)
def gRoom (T N : Int → Int) (w : Int) (P : Int → Int) (n : Nat) : Int := upto (gRoomF T N w P) n 0
theorem gRoom_up {T N : Int → Int} {w m v : Int} {P : Int → Int} : ∀ n : Nat, gRoom T N w (up1 P m v) n = gRoom T N w P n - (if 0 ≤ m ∧ m < n ∧ gWant T N m = w then v - P m else 0)
  | 0 => by rw [if_neg (by omega)]; rfl
  | n + 1 => by
    have ih := gRoom_up (T := T) (N := N) (w := w) (m := m) (v := v) (P := P) n
    show gRoomF T N w (up1 P m v) n (gRoom T N w (up1 P m v) n) = gRoomF T N w P n (gRoom T N w P n) - _
    rw [ih]
    unfold gRoomF
    by_cases h1 : m = (n : Int)
    · subst h1
      rw [up1_s]
      by_cases h2 : gWant T N n = w
      · rw [if_pos h2, if_neg (by omega), if_pos h2, if_pos ⟨by omega, by omega, h2⟩]; omega
      · rw [if_neg h2, if_neg (by omega), if_neg h2, if_neg (fun z => h2 z.2.2)]; omega
    · rw [up1_k (fun e => h1 e.symm)]
      have e : (if 0 ≤ m ∧ m < (n : Int) ∧ gWant T N m = w then v - P m else 0) = (if 0 ≤ m ∧ m < ((n + 1 : Nat) : Int) ∧ gWant T N m = w then v - P m else 0) := by
        by_cases h2 : 0 ≤ m ∧ m < (n : Int) ∧ gWant T N m = w
        · rw [if_pos h2, if_pos ⟨h2.1, by omega, h2.2.2⟩]
        · rw [if_neg h2, if_neg (fun z => h2 ⟨z.1, by omega, z.2.2⟩)]
      rw [← e]
      generalize (if 0 ≤ m ∧ m < (n : Int) ∧ gWant T N m = w then v - P m else 0) = X
      generalize (if gWant T N n = w then gBid T N n - P n else 0) = Y
      omega
theorem gRoom_le {T N : Int → Int} {w : Int} {P : Int → Int} (n : Nat) (h : ∀ m : Nat, m < n → gWant T N m = w → gBid T N m ≤ P m) : gRoom T N w P n ≤ 0 := by
  unfold gRoom
  refine upto_ind (P := fun _ a => a ≤ 0) (by omega) n (fun k x hk hx => ?_)
  unfold gRoomF
  by_cases hc : gWant T N k = w
  · rw [if_pos hc]; have := h k hk hc; omega
  · rw [if_neg hc]; omega
/-- what holds of the coins that are still to be paid -/
def POk (T N : Int → Int) (w : Int) (p : (Int → Int) × Int) : Prop := p.2 ≤ gRoom T N w p.1 (T 1).toNat ∧ (∀ m, 0 ≤ m → m < T 1 → 0 ≤ p.1 m ∧ p.1 m ≤ 288)
theorem gPassF_ok {T N : Int → Int} {w m : Int} {p : (Int → Int) × Int} (hN : NWf T N) (hm : 0 ≤ m) (hm2 : m < T 1) (h : POk T N w p) : POk T N w (gPassF T N w m p) := by
  unfold gPassF
  by_cases hc : 0 < p.2 ∧ gWant T N m = w ∧ p.1 m < gBid T N m
  · rw [if_pos hc]
    have hb := gBid_rng hN hm hm2
    refine ⟨?_, fun k hk hk2 => ?_⟩
    · show p.2 - 1 ≤ gRoom T N w (up1 p.1 m (p.1 m + 1)) (T 1).toNat
      rw [gRoom_up, if_pos ⟨hm, by omega, hc.2.1⟩]
      have := h.1
      omega
    · show 0 ≤ up1 p.1 m (p.1 m + 1) k ∧ up1 p.1 m (p.1 m + 1) k ≤ 288
      have := h.2 k hk hk2
      have := h.2 m hm hm2
      unfold up1
      split <;> omega
  · rw [if_neg hc]; exact h
theorem gPassF_le {T N : Int → Int} {w m : Int} {p : (Int → Int) × Int} : (gPassF T N w m p).2 ≤ p.2 ∧ (0 ≤ p.2 → 0 ≤ (gPassF T N w m p).2) := by
  unfold gPassF
  split
  · rename_i hc; exact ⟨by show p.2 - 1 ≤ p.2; omega, fun _ => by show 0 ≤ p.2 - 1; omega⟩
  · exact ⟨by omega, fun h => h⟩
theorem gPass_lt {T N : Int → Int} {w : Int} {p : (Int → Int) × Int} (hN : NWf T N) (h0 : 0 < p.2) (h : POk T N w p) : (gPass T N w p).2 < p.2 ∧ 0 ≤ (gPass T N w p).2 ∧ POk T N w (gPass T N w p) := by
  have key : ∀ n : Nat, (n : Int) ≤ T 1 → POk T N w (upto (gPassF T N w) n p) ∧ 0 ≤ (upto (gPassF T N w) n p).2 ∧ (upto (gPassF T N w) n p).2 ≤ p.2 ∧ ((upto (gPassF T N w) n p).2 = p.2 → upto (gPassF T N w) n p = p ∧ ∀ m : Nat, m < n → gWant T N m = w → gBid T N m ≤ p.1 m) := by
    intro n
    induction n with
    | zero => intro _; exact ⟨h, by show 0 ≤ p.2; omega, by show p.2 ≤ p.2; omega, fun _ => ⟨rfl, fun m hm => by omega⟩⟩
    | succ n ih =>
      intro hn
      obtain ⟨i1, i2, i3, i4⟩ := ih (by omega)
      have e : upto (gPassF T N w) (n + 1) p = gPassF T N w n (upto (gPassF T N w) n p) := rfl
      rw [e]
      have j := gPassF_le (T := T) (N := N) (w := w) (m := n) (p := upto (gPassF T N w) n p)
      refine ⟨gPassF_ok hN (by omega) (by omega) i1, j.2 i2, by omega, fun hq => ?_⟩
      obtain ⟨k1, k2⟩ := i4 (by omega)
      rw [k1] at hq j ⊢
      unfold gPassF at hq ⊢
      by_cases hc : 0 < p.2 ∧ gWant T N n = w ∧ p.1 n < gBid T N n
      · rw [if_pos hc] at hq
        exfalso
        have : p.2 - 1 = p.2 := hq
        omega
      · rw [if_neg hc]
        refine ⟨rfl, fun m hm hw => ?_⟩
        by_cases hmn : m = n
        · subst hmn
          exact Int.not_lt.mp (fun z => hc ⟨h0, hw, z⟩)
        · exact k2 m (by omega) hw
  by_cases hT : 0 ≤ T 1
  · obtain ⟨k1, k2, k3, k4⟩ := key (T 1).toNat (by omega)
    refine ⟨?_, k2, k1⟩
    by_cases he : (gPass T N w p).2 = p.2
    · exfalso
      have := gRoom_le (T := T) (N := N) (w := w) (P := p.1) (T 1).toNat (k4 he).2
      have := h.1
      omega
    · have : (gPass T N w p).2 ≤ p.2 := k3
      omega
  · exfalso
    have h1 := h.1
    rw [show (T 1).toNat = 0 from by omega] at h1
    have : gRoom T N w p.1 0 = 0 := rfl
    omega
