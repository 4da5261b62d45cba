set_option maxHeartbeats 4000000 in
set_option maxRecDepth 10000 in
theorem st_X2_clear :
  (∀ (l0 : Int) (nx : Nat) (h r : PF) (s : Int → Int) (Q : PO → PY → Nat → PC → Prop), (Wp 19 0 [some (pR l0)] [] LY nx (h, r, s) Q ↔ Wp 19 1 [some (pR l0)] [pR l0] LY nx (h, r, s) Q)) ∧
  (∀ (l0 : Int) (x0 : Int) (nx : Nat) (h r : PF) (s : Int → Int) (Q : PO → PY → Nat → PC → Prop), (Wp 19 1 [some (pR l0)] [pR x0] LY nx (h, r, s) Q ↔ Wp 19 2 [some (pR l0)] [pI 1, pR x0] LY nx (h, r, s) Q)) ∧
  (∀ (l0 : Int) (x0 : Int) (x1 : Int) (nx : Nat) (h r : PF) (s : Int → Int) (Q : PO → PY → Nat → PC → Prop), 0 < x0 → kd LY x0 = (0, 2) → (Wp 19 2 [some (pR l0)] [pI x1, pR x0] LY nx (h, r, s) Q ↔ Wp 19 5 [some (pR l0)] [] LY nx (fup h x0 0 x1, r, s) Q)) ∧
  (∀ (l0 : Int) (nx : Nat) (h r : PF) (s : Int → Int) (Q : PO → PY → Nat → PC → Prop), (Wp 19 5 [some (pR l0)] [] LY nx (h, r, s) Q ↔ Wp 19 6 [some (pR l0)] [pR l0] LY nx (h, r, s) Q)) ∧
  (∀ (l0 : Int) (x0 : Int) (nx : Nat) (h r : PF) (s : Int → Int) (Q : PO → PY → Nat → PC → Prop), (Wp 19 6 [some (pR l0)] [pR x0] LY nx (h, r, s) Q ↔ Wp 19 7 [some (pR l0)] [pI 0, pR x0] LY nx (h, r, s) Q)) ∧
  (∀ (l0 : Int) (x0 : Int) (x1 : Int) (nx : Nat) (h r : PF) (s : Int → Int) (Q : PO → PY → Nat → PC → Prop), 0 < x0 → kd LY x0 = (0, 2) → (Wp 19 7 [some (pR l0)] [pI x1, pR x0] LY nx (h, r, s) Q ↔ Wp 19 10 [some (pR l0)] [] LY nx (fup h x0 1 x1, r, s) Q)) ∧
  (∀ (l0 : Int) (nx : Nat) (h r : PF) (s : Int → Int) (Q : PO → PY → Nat → PC → Prop), (Wp 19 10 [some (pR l0)] [] LY nx (h, r, s) Q ↔ Wp 19 11 [some (pR l0)] [pR l0] LY nx (h, r, s) Q)) ∧
  (∀ (l0 : Int) (x0 : Int) (nx : Nat) (h r : PF) (s : Int → Int) (Q : PO → PY → Nat → PC → Prop), (Wp 19 11 [some (pR l0)] [pR x0] LY nx (h, r, s) Q ↔ Wp 19 12 [some (pR l0)] [pI 0, pR x0] LY nx (h, r, s) Q)) ∧
  (∀ (l0 : Int) (x0 : Int) (x1 : Int) (nx : Nat) (h r : PF) (s : Int → Int) (Q : PO → PY → Nat → PC → Prop), 0 < x0 → kd LY x0 = (0, 2) → (Wp 19 12 [some (pR l0)] [pI x1, pR x0] LY nx (h, r, s) Q ↔ Wp 19 15 [some (pR l0)] [] LY nx (fup h x0 2 x1, r, s) Q)) ∧
  (∀ (l0 : Int) (nx : Nat) (h r : PF) (s : Int → Int) (Q : PO → PY → Nat → PC → Prop), (Wp 19 15 [some (pR l0)] [] LY nx (h, r, s) Q ↔ Wp 19 16 [some (pR l0)] [pR l0] LY nx (h, r, s) Q)) ∧
  (∀ (l0 : Int) (x0 : Int) (nx : Nat) (h r : PF) (s : Int → Int) (Q : PO → PY → Nat → PC → Prop), (Wp 19 16 [some (pR l0)] [pR x0] LY nx (h, r, s) Q ↔ Wp 19 17 [some (pR l0)] [pI 4, pR x0] LY nx (h, r, s) Q)) ∧
  (∀ (l0 : Int) (x0 : Int) (x1 : Int) (nx : Nat) (h r : PF) (s : Int → Int) (Q : PO → PY → Nat → PC → Prop), 0 < x0 → kd LY x0 = (0, 2) → (Wp 19 17 [some (pR l0)] [pI x1, pR x0] LY nx (h, r, s) Q ↔ Wp 19 20 [some (pR l0)] [] LY nx (fup h x0 3 x1, r, s) Q)) ∧
  (∀ (l0 : Int) (nx : Nat) (h r : PF) (s : Int → Int) (Q : PO → PY → Nat → PC → Prop), (Wp 19 20 [some (pR l0)] [] LY nx (h, r, s) Q ↔ Wp 19 21 [some (pR l0)] [pR l0] LY nx (h, r, s) Q)) ∧
  (∀ (l0 : Int) (x0 : Int) (nx : Nat) (h r : PF) (s : Int → Int) (Q : PO → PY → Nat → PC → Prop), (Wp 19 21 [some (pR l0)] [pR x0] LY nx (h, r, s) Q ↔ Wp 19 22 [some (pR l0)] [pI 1, pR x0] LY nx (h, r, s) Q)) ∧
  (∀ (l0 : Int) (x0 : Int) (x1 : Int) (nx : Nat) (h r : PF) (s : Int → Int) (Q : PO → PY → Nat → PC → Prop), 0 < x0 → kd LY x0 = (0, 2) → (Wp 19 22 [some (pR l0)] [pI x1, pR x0] LY nx (h, r, s) Q ↔ Wp 19 25 [some (pR l0)] [] LY nx (fup h x0 4 x1, r, s) Q)) ∧
  (∀ (l0 : Int) (nx : Nat) (h r : PF) (s : Int → Int) (Q : PO → PY → Nat → PC → Prop), (Wp 19 25 [some (pR l0)] [] LY nx (h, r, s) Q ↔ Wp 19 26 [some (pR l0)] [pR l0] LY nx (h, r, s) Q)) ∧
  (∀ (l0 : Int) (x0 : Int) (nx : Nat) (h r : PF) (s : Int → Int) (Q : PO → PY → Nat → PC → Prop), 0 < x0 → kd LY x0 = (0, 2) → r x0 8 = x0 + 4 → 0 < x0 + 4 → (Wp 19 26 [some (pR l0)] [pR x0] LY nx (h, r, s) Q ↔ Wp 19 29 [some (pR l0)] [pR (x0 + 4)] LY nx (h, r, s) Q)) ∧
  (∀ (l0 : Int) (x0 : Int) (nx : Nat) (h r : PF) (s : Int → Int) (Q : PO → PY → Nat → PC → Prop), (Wp 19 29 [some (pR l0)] [pR x0] LY nx (h, r, s) Q ↔ Wp 19 30 [some (pR l0)] [pI 0, pR x0] LY nx (h, r, s) Q)) ∧
  (∀ (l0 : Int) (x0 : Int) (x1 : Int) (nx : Nat) (h r : PF) (s : Int → Int) (Q : PO → PY → Nat → PC → Prop), (Wp 19 30 [some (pR l0)] [pI x1, pR x0] LY nx (h, r, s) Q ↔ Wp 229 0 [some (pR x0), some (pI x1), none, none] [] LY nx (h, r, s) (Kc 19 30 [some (pR l0)] 33 [] Q))) ∧
  (∀ (l0 : Int) (nx : Nat) (h r : PF) (s : Int → Int) (Q : PO → PY → Nat → PC → Prop), (Wp 19 33 [some (pR l0)] [] LY nx (h, r, s) Q ↔ Wp 19 34 [some (pR l0)] [pR l0] LY nx (h, r, s) Q)) ∧
  (∀ (l0 : Int) (x0 : Int) (nx : Nat) (h r : PF) (s : Int → Int) (Q : PO → PY → Nat → PC → Prop), 0 < x0 → kd LY x0 = (0, 2) → r x0 9 = x0 + 5 → 0 < x0 + 5 → (Wp 19 34 [some (pR l0)] [pR x0] LY nx (h, r, s) Q ↔ Wp 19 37 [some (pR l0)] [pR (x0 + 5)] LY nx (h, r, s) Q)) ∧
  (∀ (l0 : Int) (x0 : Int) (nx : Nat) (h r : PF) (s : Int → Int) (Q : PO → PY → Nat → PC → Prop), (Wp 19 37 [some (pR l0)] [pR x0] LY nx (h, r, s) Q ↔ Wp 19 38 [some (pR l0)] [pI (-1), pR x0] LY nx (h, r, s) Q)) ∧
  (∀ (l0 : Int) (x0 : Int) (x1 : Int) (nx : Nat) (h r : PF) (s : Int → Int) (Q : PO → PY → Nat → PC → Prop), (Wp 19 38 [some (pR l0)] [pI x1, pR x0] LY nx (h, r, s) Q ↔ Wp 229 0 [some (pR x0), some (pI x1), none, none] [] LY nx (h, r, s) (Kc 19 38 [some (pR l0)] 41 [] Q))) ∧
  (∀ (l0 : Int) (nx : Nat) (h r : PF) (s : Int → Int) (Q : PO → PY → Nat → PC → Prop), (Wp 19 41 [some (pR l0)] [] LY nx (h, r, s) Q ↔ Wp 19 42 [some (pR l0)] [pR l0] LY nx (h, r, s) Q)) ∧
  (∀ (l0 : Int) (x0 : Int) (nx : Nat) (h r : PF) (s : Int → Int) (Q : PO → PY → Nat → PC → Prop), 0 < x0 → kd LY x0 = (0, 2) → r x0 10 = x0 + 6 → 0 < x0 + 6 → (Wp 19 42 [some (pR l0)] [pR x0] LY nx (h, r, s) Q ↔ Wp 19 45 [some (pR l0)] [pR (x0 + 6)] LY nx (h, r, s) Q)) ∧
  (∀ (l0 : Int) (x0 : Int) (nx : Nat) (h r : PF) (s : Int → Int) (Q : PO → PY → Nat → PC → Prop), (Wp 19 45 [some (pR l0)] [pR x0] LY nx (h, r, s) Q ↔ Wp 19 46 [some (pR l0)] [pI (-1), pR x0] LY nx (h, r, s) Q)) ∧
  (∀ (l0 : Int) (x0 : Int) (x1 : Int) (nx : Nat) (h r : PF) (s : Int → Int) (Q : PO → PY → Nat → PC → Prop), (Wp 19 46 [some (pR l0)] [pI x1, pR x0] LY nx (h, r, s) Q ↔ Wp 229 0 [some (pR x0), some (pI x1), none, none] [] LY nx (h, r, s) (Kc 19 46 [some (pR l0)] 49 [] Q))) ∧
  (∀ (l0 : Int) (nx : Nat) (h r : PF) (s : Int → Int) (Q : PO → PY → Nat → PC → Prop), (Wp 19 49 [some (pR l0)] [] LY nx (h, r, s) Q ↔ Q (Sum.inl none) LY nx (h, r, s))) :=
  ⟨fun l0 nx h r s Q  => o_aload_n (by decide +kernel : pcode 19 0 = some (10, 0, 0, 0, 0)) rfl,
  fun l0 x0 nx h r s Q  => o_iconst (by decide +kernel : pcode 19 1 = some (1, 0, 0, 0, 1)),
  fun l0 x0 x1 nx h r s Q h0 hk => o_putI (by decide +kernel : pcode 19 2 = some (58, 370, 2, 0, 33)) h0 hk,
  fun l0 nx h r s Q  => o_aload_n (by decide +kernel : pcode 19 5 = some (10, 0, 0, 0, 0)) rfl,
  fun l0 x0 nx h r s Q  => o_iconst (by decide +kernel : pcode 19 6 = some (1, 0, 0, 0, 0)),
  fun l0 x0 x1 nx h r s Q h0 hk => o_putI (by decide +kernel : pcode 19 7 = some (58, 375, 2, 1, 37)) h0 hk,
  fun l0 nx h r s Q  => o_aload_n (by decide +kernel : pcode 19 10 = some (10, 0, 0, 0, 0)) rfl,
  fun l0 x0 nx h r s Q  => o_iconst (by decide +kernel : pcode 19 11 = some (1, 0, 0, 0, 0)),
  fun l0 x0 x1 nx h r s Q h0 hk => o_putI (by decide +kernel : pcode 19 12 = some (58, 381, 2, 2, 40)) h0 hk,
  fun l0 nx h r s Q  => o_aload_n (by decide +kernel : pcode 19 15 = some (10, 0, 0, 0, 0)) rfl,
  fun l0 x0 nx h r s Q  => o_iconst (by decide +kernel : pcode 19 16 = some (1, 0, 0, 0, 4)),
  fun l0 x0 x1 nx h r s Q h0 hk => o_putI (by decide +kernel : pcode 19 17 = some (58, 383, 2, 3, 43)) h0 hk,
  fun l0 nx h r s Q  => o_aload_n (by decide +kernel : pcode 19 20 = some (10, 0, 0, 0, 0)) rfl,
  fun l0 x0 nx h r s Q  => o_iconst (by decide +kernel : pcode 19 21 = some (1, 0, 0, 0, 1)),
  fun l0 x0 x1 nx h r s Q h0 hk => o_putI (by decide +kernel : pcode 19 22 = some (58, 387, 2, 4, 46)) h0 hk,
  fun l0 nx h r s Q  => o_aload_n (by decide +kernel : pcode 19 25 = some (10, 0, 0, 0, 0)) rfl,
  fun l0 x0 nx h r s Q h0 hk h9 h8 => o_getR (h := (h, r, s)) (by decide +kernel : pcode 19 26 = some (57, 401, 2, 8, 21)) h0 hk h9 h8,
  fun l0 x0 nx h r s Q  => o_iconst (by decide +kernel : pcode 19 29 = some (1, 0, 0, 0, 0)),
  fun l0 x0 x1 nx h r s Q  => o_ivS (s1 := [pI x1, pR x0]) (s2 := []) (by decide +kernel : pcode 19 30 = some (77, 229, 2, 367, 49)) rfl (Nat.le_of_ble_eq_true rfl) rfl rfl rfl,
  fun l0 nx h r s Q  => o_aload_n (by decide +kernel : pcode 19 33 = some (10, 0, 0, 0, 0)) rfl,
  fun l0 x0 nx h r s Q h0 hk h9 h8 => o_getR (h := (h, r, s)) (by decide +kernel : pcode 19 34 = some (57, 403, 2, 9, 24)) h0 hk h9 h8,
  fun l0 x0 nx h r s Q  => o_iconst (by decide +kernel : pcode 19 37 = some (1, 0, 0, 0, -1)),
  fun l0 x0 x1 nx h r s Q  => o_ivS (s1 := [pI x1, pR x0]) (s2 := []) (by decide +kernel : pcode 19 38 = some (77, 229, 2, 367, 49)) rfl (Nat.le_of_ble_eq_true rfl) rfl rfl rfl,
  fun l0 nx h r s Q  => o_aload_n (by decide +kernel : pcode 19 41 = some (10, 0, 0, 0, 0)) rfl,
  fun l0 x0 nx h r s Q h0 hk h9 h8 => o_getR (h := (h, r, s)) (by decide +kernel : pcode 19 42 = some (57, 406, 2, 10, 27)) h0 hk h9 h8,
  fun l0 x0 nx h r s Q  => o_iconst (by decide +kernel : pcode 19 45 = some (1, 0, 0, 0, -1)),
  fun l0 x0 x1 nx h r s Q  => o_ivS (s1 := [pI x1, pR x0]) (s2 := []) (by decide +kernel : pcode 19 46 = some (77, 229, 2, 367, 49)) rfl (Nat.le_of_ble_eq_true rfl) rfl rfl rfl,
  fun l0 nx h r s Q  => o_vret (by decide +kernel : pcode 19 49 = some (90, 0, 0, 0, 0))⟩
