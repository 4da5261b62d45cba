set_option maxHeartbeats 4000000 in
set_option maxRecDepth 10000 in
theorem st_X2_clear :
  (∀ (l0 : Int) (nx : Nat) (h r : PF) (s : Int → Int) (Q : PO → PY → Nat → PC → Prop), (Wp 19 0 [some (pR l0)] [] LY nx (h, r, s) Q ↔ Wp 19 1 [some (pR l0)] [pR l0] LY nx (h, r, s) Q)) ∧
  (∀ (l0 : Int) (x0 : Int) (nx : Nat) (h r : PF) (s : Int → Int) (Q : PO → PY → Nat → PC → Prop), (Wp 19 1 [some (pR l0)] [pR x0] LY nx (h, r, s) Q ↔ Wp 19 2 [some (pR l0)] [pI 1, pR x0] LY nx (h, r, s) Q)) ∧
  (∀ (l0 : Int) (x0 : Int) (x1 : Int) (nx : Nat) (h r : PF) (s : Int → Int) (Q : PO → PY → Nat → PC → Prop), 0 < x0 → kd LY x0 = (0, 2) → (Wp 19 2 [some (pR l0)] [pI x1, pR x0] LY nx (h, r, s) Q ↔ Wp 19 5 [some (pR l0)] [] LY nx (fup h x0 0 x1, r, s) Q)) ∧
  (∀ (l0 : Int) (nx : Nat) (h r : PF) (s : Int → Int) (Q : PO → PY → Nat → PC → Prop), (Wp 19 5 [some (pR l0)] [] LY nx (h, r, s) Q ↔ Wp 19 6 [some (pR l0)] [pR l0] LY nx (h, r, s) Q)) ∧
  (∀ (l0 : Int) (x0 : Int) (nx : Nat) (h r : PF) (s : Int → Int) (Q : PO → PY → Nat → PC → Prop), (Wp 19 6 [some (pR l0)] [pR x0] LY nx (h, r, s) Q ↔ Wp 19 7 [some (pR l0)] [pI 0, pR x0] LY nx (h, r, s) Q)) ∧
  (∀ (l0 : Int) (x0 : Int) (x1 : Int) (nx : Nat) (h r : PF) (s : Int → Int) (Q : PO → PY → Nat → PC → Prop), 0 < x0 → kd LY x0 = (0, 2) → (Wp 19 7 [some (pR l0)] [pI x1, pR x0] LY nx (h, r, s) Q ↔ Wp 19 10 [some (pR l0)] [] LY nx (fup h x0 1 x1, r, s) Q)) ∧
  (∀ (l0 : Int) (nx : Nat) (h r : PF) (s : Int → Int) (Q : PO → PY → Nat → PC → Prop), (Wp 19 10 [some (pR l0)] [] LY nx (h, r, s) Q ↔ Wp 19 11 [some (pR l0)] [pR l0] LY nx (h, r, s) Q)) ∧
  (∀ (l0 : Int) (x0 : Int) (nx : Nat) (h r : PF) (s : Int → Int) (Q : PO → PY → Nat → PC → Prop), (Wp 19 11 [some (pR l0)] [pR x0] LY nx (h, r, s) Q ↔ Wp 19 12 [some (pR l0)] [pI 0, pR x0] LY nx (h, r, s) Q)) ∧
  (∀ (l0 : Int) (x0 : Int) (x1 : Int) (nx : Nat) (h r : PF) (s : Int → Int) (Q : PO → PY → Nat → PC → Prop), 0 < x0 → kd LY x0 = (0, 2) → (Wp 19 12 [some (pR l0)] [pI x1, pR x0] LY nx (h, r, s) Q ↔ Wp 19 15 [some (pR l0)] [] LY nx (fup h x0 2 x1, r, s) Q)) ∧
  (∀ (l0 : Int) (nx : Nat) (h r : PF) (s : Int → Int) (Q : PO → PY → Nat → PC → Prop), (Wp 19 15 [some (pR l0)] [] LY nx (h, r, s) Q ↔ Wp 19 16 [some (pR l0)] [pR l0] LY nx (h, r, s) Q)) ∧
  (∀ (l0 : Int) (x0 : Int) (nx : Nat) (h r : PF) (s : Int → Int) (Q : PO → PY → Nat → PC → Prop), (Wp 19 16 [some (pR l0)] [pR x0] LY nx (h, r, s) Q ↔ Wp 19 17 [some (pR l0)] [pI 4, pR x0] LY nx (h, r, s) Q)) ∧
  (∀ (l0 : Int) (x0 : Int) (x1 : Int) (nx : Nat) (h r : PF) (s : Int → Int) (Q : PO → PY → Nat → PC → Prop), 0 < x0 → kd LY x0 = (0, 2) → (Wp 19 17 [some (pR l0)] [pI x1, pR x0] LY nx (h, r, s) Q ↔ Wp 19 20 [some (pR l0)] [] LY nx (fup h x0 3 x1, r, s) Q)) ∧
  (∀ (l0 : Int) (nx : Nat) (h r : PF) (s : Int → Int) (Q : PO → PY → Nat → PC → Prop), (Wp 19 20 [some (pR l0)] [] LY nx (h, r, s) Q ↔ Wp 19 21 [some (pR l0)] [pR l0] LY nx (h, r, s) Q)) ∧
  (∀ (l0 : Int) (x0 : Int) (nx : Nat) (h r : PF) (s : Int → Int) (Q : PO → PY → Nat → PC → Prop), (Wp 19 21 [some (pR l0)] [pR x0] LY nx (h, r, s) Q ↔ Wp 19 22 [some (pR l0)] [pI 1, pR x0] LY nx (h, r, s) Q)) ∧
  (∀ (l0 : Int) (x0 : Int) (x1 : Int) (nx : Nat) (h r : PF) (s : Int → Int) (Q : PO → PY → Nat → PC → Prop), 0 < x0 → kd LY x0 = (0, 2) → (Wp 19 22 [some (pR l0)] [pI x1, pR x0] LY nx (h, r, s) Q ↔ Wp 19 25 [some (pR l0)] [] LY nx (fup h x0 4 x1, r, s) Q)) ∧
  (∀ (l0 : Int) (nx : Nat) (h r : PF) (s : Int → Int) (Q : PO → PY → Nat → PC → Prop), (Wp 19 25 [some (pR l0)] [] LY nx (h, r, s) Q ↔ Wp 19 26 [some (pR l0)] [pR l0] LY nx (h, r, s) Q)) ∧
  (∀ (l0 : Int) (x0 : Int) (nx : Nat) (h r : PF) (s : Int → Int) (Q : PO → PY → Nat → PC → Prop), 0 < x0 → kd LY x0 = (0, 2) → r x0 8 = x0 + 4 → 0 < x0 + 4 → (Wp 19 26 [some (pR l0)] [pR x0] LY nx (h, r, s) Q ↔ Wp 19 29 [some (pR l0)] [pR (x0 + 4)] LY nx (h, r, s) Q)) ∧
  (∀ (l0 : Int) (x0 : Int) (nx : Nat) (h r : PF) (s : Int → Int) (Q : PO → PY → Nat → PC → Prop), (Wp 19 29 [some (pR l0)] [pR x0] LY nx (h, r, s) Q ↔ Wp 19 30 [some (pR l0)] [pI 0, pR x0] LY nx (h, r, s) Q)) ∧
  (∀ (l0 : Int) (x0 : Int) (x1 : Int) (nx : Nat) (h r : PF) (s : Int → Int) (Q : PO → PY → Nat → PC → Prop), (Wp 19 30 [some (pR l0)] [pI x1, pR x0] LY nx (h, r, s) Q ↔ Wp 229 0 [some (pR x0), some (pI x1), none, none] [] LY nx (h, r, s) (Kc 19 30 [some (pR l0)] 33 [] Q))) ∧
  (∀ (l0 : Int) (nx : Nat) (h r : PF) (s : Int → Int) (Q : PO → PY → Nat → PC → Prop), (Wp 19 33 [some (pR l0)] [] LY nx (h, r, s) Q ↔ Wp 19 34 [some (pR l0)] [pR l0] LY nx (h, r, s) Q)) ∧
  (∀ (l0 : Int) (x0 : Int) (nx : Nat) (h r : PF) (s : Int → Int) (Q : PO → PY → Nat → PC → Prop), 0 < x0 → kd LY x0 = (0, 2) → r x0 9 = x0 + 5 → 0 < x0 + 5 → (Wp 19 34 [some (pR l0)] [pR x0] LY nx (h, r, s) Q ↔ Wp 19 37 [some (pR l0)] [pR (x0 + 5)] LY nx (h, r, s) Q)) ∧
  (∀ (l0 : Int) (x0 : Int) (nx : Nat) (h r : PF) (s : Int → Int) (Q : PO → PY → Nat → PC → Prop), (Wp 19 37 [some (pR l0)] [pR x0] LY nx (h, r, s) Q ↔ Wp 19 38 [some (pR l0)] [pI (-1), pR x0] LY nx (h, r, s) Q)) ∧
  (∀ (l0 : Int) (x0 : Int) (x1 : Int) (nx : Nat) (h r : PF) (s : Int → Int) (Q : PO → PY → Nat → PC → Prop), (Wp 19 38 [some (pR l0)] [pI x1, pR x0] LY nx (h, r, s) Q ↔ Wp 229 0 [some (pR x0), some (pI x1), none, none] [] LY nx (h, r, s) (Kc 19 38 [some (pR l0)] 41 [] Q))) ∧
  (∀ (l0 : Int) (nx : Nat) (h r : PF) (s : Int → Int) (Q : PO → PY → Nat → PC → Prop), (Wp 19 41 [some (pR l0)] [] LY nx (h, r, s) Q ↔ Wp 19 42 [some (pR l0)] [pR l0] LY nx (h, r, s) Q)) ∧
  (∀ (l0 : Int) (x0 : Int) (nx : Nat) (h r : PF) (s : Int → Int) (Q : PO → PY → Nat → PC → Prop), 0 < x0 → kd LY x0 = (0, 2) → r x0 10 = x0 + 6 → 0 < x0 + 6 → (Wp 19 42 [some (pR l0)] [pR x0] LY nx (h, r, s) Q ↔ Wp 19 45 [some (pR l0)] [pR (x0 + 6)] LY nx (h, r, s) Q)) ∧
  (∀ (l0 : Int) (x0 : Int) (nx : Nat) (h r : PF) (s : Int → Int) (Q : PO → PY → Nat → PC → Prop), (Wp 19 45 [some (pR l0)] [pR x0] LY nx (h, r, s) Q ↔ Wp 19 46 [some (pR l0)] [pI (-1), pR x0] LY nx (h, r, s) Q)) ∧
  (∀ (l0 : Int) (x0 : Int) (x1 : Int) (nx : Nat) (h r : PF) (s : Int → Int) (Q : PO → PY → Nat → PC → Prop), (Wp 19 46 [some (pR l0)] [pI x1, pR x0] LY nx (h, r, s) Q ↔ Wp 229 0 [some (pR x0), some (pI x1), none, none] [] LY nx (h, r, s) (Kc 19 46 [some (pR l0)] 49 [] Q))) ∧
  (∀ (l0 : Int) (nx : Nat) (h r : PF) (s : Int → Int) (Q : PO → PY → Nat → PC → Prop), (Wp 19 49 [some (pR l0)] [] LY nx (h, r, s) Q ↔ Q (Sum.inl none) LY nx (h, r, s))) :=
  ⟨fun l0 nx h r s Q  => o_aload_n (by decide +kernel : pcode 19 0 = some (10, 0, 0, 0, 0)) rfl,
  fun l0 x0 nx h r s Q  => o_iconst (by decide +kernel : pcode 19 1 = some (1, 0, 0, 0, 1)),
  fun l0 x0 x1 nx h r s Q h0 hk => o_putI (by decide +kernel : pcode 19 2 = some (58, 370, 2, 0, 33)) h0 hk,
  fun l0 nx h r s Q  => o_aload_n (by decide +kernel : pcode 19 5 = some (10, 0, 0, 0, 0)) rfl,
  fun l0 x0 nx h r s Q  => o_iconst (by decide +kernel : pcode 19 6 = some (1, 0, 0, 0, 0)),
  fun l0 x0 x1 nx h r s Q h0 hk => o_putI (by decide +kernel : pcode 19 7 = some (58, 375, 2, 1, 37)) h0 hk,
  fun l0 nx h r s Q  => o_aload_n (by decide +kernel : pcode 19 10 = some (10, 0, 0, 0, 0)) rfl,
  fun l0 x0 nx h r s Q  => o_iconst (by decide +kernel : pcode 19 11 = some (1, 0, 0, 0, 0)),
  fun l0 x0 x1 nx h r s Q h0 hk => o_putI (by decide +kernel : pcode 19 12 = some (58, 381, 2, 2, 40)) h0 hk,
  fun l0 nx h r s Q  => o_aload_n (by decide +kernel : pcode 19 15 = some (10, 0, 0, 0, 0)) rfl,
  fun l0 x0 nx h r s Q  => o_iconst (by decide +kernel : pcode 19 16 = some (1, 0, 0, 0, 4)),
  fun l0 x0 x1 nx h r s Q h0 hk => o_putI (by decide +kernel : pcode 19 17 = some (58, 383, 2, 3, 43)) h0 hk,
  fun l0 nx h r s Q  => o_aload_n (by decide +kernel : pcode 19 20 = some (10, 0, 0, 0, 0)) rfl,
  fun l0 x0 nx h r s Q  => o_iconst (by decide +kernel : pcode 19 21 = some (1, 0, 0, 0, 1)),
  fun l0 x0 x1 nx h r s Q h0 hk => o_putI (by decide +kernel : pcode 19 22 = some (58, 387, 2, 4, 46)) h0 hk,
  fun l0 nx h r s Q  => o_aload_n (by decide +kernel : pcode 19 25 = some (10, 0, 0, 0, 0)) rfl,
  fun l0 x0 nx h r s Q h0 hk h9 h8 => o_getR (h := (h, r, s)) (by decide +kernel : pcode 19 26 = some (57, 401, 2, 8, 21)) h0 hk h9 h8,
  fun l0 x0 nx h r s Q  => o_iconst (by decide +kernel : pcode 19 29 = some (1, 0, 0, 0, 0)),
  fun l0 x0 x1 nx h r s Q  => o_ivS (s1 := [pI x1, pR x0]) (s2 := []) (by decide +kernel : pcode 19 30 = some (77, 229, 2, 367, 49)) rfl (Nat.le_of_ble_eq_true rfl) rfl rfl rfl,
  fun l0 nx h r s Q  => o_aload_n (by decide +kernel : pcode 19 33 = some (10, 0, 0, 0, 0)) rfl,
  fun l0 x0 nx h r s Q h0 hk h9 h8 => o_getR (h := (h, r, s)) (by decide +kernel : pcode 19 34 = some (57, 403, 2, 9, 24)) h0 hk h9 h8,
  fun l0 x0 nx h r s Q  => o_iconst (by decide +kernel : pcode 19 37 = some (1, 0, 0, 0, -1)),
  fun l0 x0 x1 nx h r s Q  => o_ivS (s1 := [pI x1, pR x0]) (s2 := []) (by decide +kernel : pcode 19 38 = some (77, 229, 2, 367, 49)) rfl (Nat.le_of_ble_eq_true rfl) rfl rfl rfl,
  fun l0 nx h r s Q  => o_aload_n (by decide +kernel : pcode 19 41 = some (10, 0, 0, 0, 0)) rfl,
  fun l0 x0 nx h r s Q h0 hk h9 h8 => o_getR (h := (h, r, s)) (by decide +kernel : pcode 19 42 = some (57, 406, 2, 10, 27)) h0 hk h9 h8,
  fun l0 x0 nx h r s Q  => o_iconst (by decide +kernel : pcode 19 45 = some (1, 0, 0, 0, -1)),
  fun l0 x0 x1 nx h r s Q  => o_ivS (s1 := [pI x1, pR x0]) (s2 := []) (by decide +kernel : pcode 19 46 = some (77, 229, 2, 367, 49)) rfl (Nat.le_of_ble_eq_true rfl) rfl rfl rfl,
  fun l0 nx h r s Q  => o_vret (by decide +kernel : pcode 19 49 = some (90, 0, 0, 0, 0))⟩
set_option maxHeartbeats 4000000 in
set_option maxRecDepth 10000 in
theorem st_X2_target :
  (∀ (l0 : Int) (l1 : Int) (l2 : Int) (l3 : Int) (nx : Nat) (h r : PF) (s : Int → Int) (Q : PO → PY → Nat → PC → Prop), (Wp 20 0 [some (pR l0), some (pI l1), some (pI l2), some (pI l3)] [] LY nx (h, r, s) Q ↔ Wp 20 1 [some (pR l0), some (pI l1), some (pI l2), some (pI l3)] [pR l0] LY nx (h, r, s) Q)) ∧
  (∀ (l0 : Int) (l1 : Int) (l2 : Int) (l3 : Int) (x0 : Int) (nx : Nat) (h r : PF) (s : Int → Int) (Q : PO → PY → Nat → PC → Prop), 0 < x0 → kd LY x0 = (0, 2) → r x0 10 = x0 + 6 → 0 < x0 + 6 → (Wp 20 1 [some (pR l0), some (pI l1), some (pI l2), some (pI l3)] [pR x0] LY nx (h, r, s) Q ↔ Wp 20 4 [some (pR l0), some (pI l1), some (pI l2), some (pI l3)] [pR (x0 + 6)] LY nx (h, r, s) Q)) ∧
  (∀ (l0 : Int) (l1 : Int) (l2 : Int) (l3 : Int) (x0 : Int) (nx : Nat) (h r : PF) (s : Int → Int) (Q : PO → PY → Nat → PC → Prop), (Wp 20 4 [some (pR l0), some (pI l1), some (pI l2), some (pI l3)] [pR x0] LY nx (h, r, s) Q ↔ Wp 20 5 [some (pR l0), some (pI l1), some (pI l2), some (pI l3)] [pI l1, pR x0] LY nx (h, r, s) Q)) ∧
  (∀ (l0 : Int) (l1 : Int) (l2 : Int) (l3 : Int) (x0 : Int) (x1 : Int) (nx : Nat) (h r : PF) (s : Int → Int) (Q : PO → PY → Nat → PC → Prop), (Wp 20 5 [some (pR l0), some (pI l1), some (pI l2), some (pI l3)] [pI x1, pR x0] LY nx (h, r, s) Q ↔ Wp 20 7 [some (pR l0), some (pI l1), some (pI l2), some (pI l3)] [pI 6, pI x1, pR x0] LY nx (h, r, s) Q)) ∧
  (∀ (l0 : Int) (l1 : Int) (l2 : Int) (l3 : Int) (x0 : Int) (x1 : Int) (x2 : Int) (nx : Nat) (h r : PF) (s : Int → Int) (Q : PO → PY → Nat → PC → Prop), (Wp 20 7 [some (pR l0), some (pI l1), some (pI l2), some (pI l3)] [pI x2, pI x1, pR x0] LY nx (h, r, s) Q ↔ Wp 20 8 [some (pR l0), some (pI l1), some (pI l2), some (pI l3)] [pI (w32 (x1 * x2)), pR x0] LY nx (h, r, s) Q)) ∧
  (∀ (l0 : Int) (l1 : Int) (l2 : Int) (l3 : Int) (x0 : Int) (x1 : Int) (nx : Nat) (h r : PF) (s : Int → Int) (Q : PO → PY → Nat → PC → Prop), (Wp 20 8 [some (pR l0), some (pI l1), some (pI l2), some (pI l3)] [pI x1, pR x0] LY nx (h, r, s) Q ↔ Wp 20 9 [some (pR l0), some (pI l1), some (pI l2), some (pI l3)] [pI l2, pI x1, pR x0] LY nx (h, r, s) Q)) ∧
  (∀ (l0 : Int) (l1 : Int) (l2 : Int) (l3 : Int) (x0 : Int) (x1 : Int) (x2 : Int) (nx : Nat) (h r : PF) (s : Int → Int) (Q : PO → PY → Nat → PC → Prop), (Wp 20 9 [some (pR l0), some (pI l1), some (pI l2), some (pI l3)] [pI x2, pI x1, pR x0] LY nx (h, r, s) Q ↔ Wp 20 10 [some (pR l0), some (pI l1), some (pI l2), some (pI l3)] [pI (w32 (x1 + x2)), pR x0] LY nx (h, r, s) Q)) ∧
  (∀ (l0 : Int) (l1 : Int) (l2 : Int) (l3 : Int) (x0 : Int) (x1 : Int) (nx : Nat) (h r : PF) (s : Int → Int) (Q : PO → PY → Nat → PC → Prop), (Wp 20 10 [some (pR l0), some (pI l1), some (pI l2), some (pI l3)] [pI x1, pR x0] LY nx (h, r, s) Q ↔ Wp 20 11 [some (pR l0), some (pI l1), some (pI l2), some (pI l3)] [pI 4, pI x1, pR x0] LY nx (h, r, s) Q)) ∧
  (∀ (l0 : Int) (l1 : Int) (l2 : Int) (l3 : Int) (x0 : Int) (x1 : Int) (x2 : Int) (nx : Nat) (h r : PF) (s : Int → Int) (Q : PO → PY → Nat → PC → Prop), (Wp 20 11 [some (pR l0), some (pI l1), some (pI l2), some (pI l3)] [pI x2, pI x1, pR x0] LY nx (h, r, s) Q ↔ Wp 20 12 [some (pR l0), some (pI l1), some (pI l2), some (pI l3)] [pI (w32 (x1 * x2)), pR x0] LY nx (h, r, s) Q)) ∧
  (∀ (l0 : Int) (l1 : Int) (l2 : Int) (l3 : Int) (x0 : Int) (x1 : Int) (nx : Nat) (h r : PF) (s : Int → Int) (Q : PO → PY → Nat → PC → Prop), (Wp 20 12 [some (pR l0), some (pI l1), some (pI l2), some (pI l3)] [pI x1, pR x0] LY nx (h, r, s) Q ↔ Wp 20 13 [some (pR l0), some (pI l1), some (pI l2), some (pI l3)] [pI l3, pI x1, pR x0] LY nx (h, r, s) Q)) ∧
  (∀ (l0 : Int) (l1 : Int) (l2 : Int) (l3 : Int) (x0 : Int) (x1 : Int) (x2 : Int) (nx : Nat) (h r : PF) (s : Int → Int) (Q : PO → PY → Nat → PC → Prop), (Wp 20 13 [some (pR l0), some (pI l1), some (pI l2), some (pI l3)] [pI x2, pI x1, pR x0] LY nx (h, r, s) Q ↔ Wp 20 14 [some (pR l0), some (pI l1), some (pI l2), some (pI l3)] [pI (w32 (x1 + x2)), pR x0] LY nx (h, r, s) Q)) ∧
  (∀ (l0 : Int) (l1 : Int) (l2 : Int) (l3 : Int) (x0 : Int) (x1 : Int) (nx : Nat) (h r : PF) (s : Int → Int) (Q : PO → PY → Nat → PC → Prop), 0 < x0 → kd LY x0 = (1, 96) → 0 ≤ x1 → x1 < 96 → (Wp 20 14 [some (pR l0), some (pI l1), some (pI l2), some (pI l3)] [pI x1, pR x0] LY nx (h, r, s) Q ↔ Wp 20 15 [some (pR l0), some (pI l1), some (pI l2), some (pI l3)] [pI (h x0 x1)] LY nx (h, r, s) Q)) ∧
  (∀ (l0 : Int) (l1 : Int) (l2 : Int) (l3 : Int) (x0 : Int) (nx : Nat) (h r : PF) (s : Int → Int) (Q : PO → PY → Nat → PC → Prop), (Wp 20 15 [some (pR l0), some (pI l1), some (pI l2), some (pI l3)] [pI x0] LY nx (h, r, s) Q ↔ Q (Sum.inl (some (pI x0))) LY nx (h, r, s))) :=
  ⟨fun l0 l1 l2 l3 nx h r s Q  => o_aload_n (by decide +kernel : pcode 20 0 = some (10, 0, 0, 0, 0)) rfl,
  fun l0 l1 l2 l3 x0 nx h r s Q h0 hk h9 h8 => o_getR (h := (h, r, s)) (by decide +kernel : pcode 20 1 = some (57, 406, 2, 10, 27)) h0 hk h9 h8,
  fun l0 l1 l2 l3 x0 nx h r s Q  => o_iload_n (by decide +kernel : pcode 20 4 = some (6, 1, 0, 0, 0)) rfl,
  fun l0 l1 l2 l3 x0 x1 nx h r s Q  => o_bipush (by decide +kernel : pcode 20 5 = some (2, 0, 0, 0, 6)),
  fun l0 l1 l2 l3 x0 x1 x2 nx h r s Q  => o_imul (by decide +kernel : pcode 20 7 = some (21, 0, 0, 0, 0)),
  fun l0 l1 l2 l3 x0 x1 nx h r s Q  => o_iload_n (by decide +kernel : pcode 20 8 = some (6, 2, 0, 0, 0)) rfl,
  fun l0 l1 l2 l3 x0 x1 x2 nx h r s Q  => o_iadd (by decide +kernel : pcode 20 9 = some (19, 0, 0, 0, 0)),
  fun l0 l1 l2 l3 x0 x1 nx h r s Q  => o_iconst (by decide +kernel : pcode 20 10 = some (1, 0, 0, 0, 4)),
  fun l0 l1 l2 l3 x0 x1 x2 nx h r s Q  => o_imul (by decide +kernel : pcode 20 11 = some (21, 0, 0, 0, 0)),
  fun l0 l1 l2 l3 x0 x1 nx h r s Q  => o_iload_n (by decide +kernel : pcode 20 12 = some (6, 3, 0, 0, 0)) rfl,
  fun l0 l1 l2 l3 x0 x1 x2 nx h r s Q  => o_iadd (by decide +kernel : pcode 20 13 = some (19, 0, 0, 0, 0)),
  fun l0 l1 l2 l3 x0 x1 nx h r s Q h0 hk hi hn => o_iald (h := (h, r, s)) (n := 96) (by decide +kernel : pcode 20 14 = some (63, 0, 0, 0, 0)) h0 hk hi hn,
  fun l0 l1 l2 l3 x0 nx h r s Q  => o_iret (by decide +kernel : pcode 20 15 = some (87, 0, 0, 0, 0))⟩
set_option maxHeartbeats 4000000 in
set_option maxRecDepth 10000 in
theorem st_X2_setTarget :
  (∀ (l0 : Int) (l1 : Int) (l2 : Int) (l3 : Int) (l4 : Int) (nx : Nat) (h r : PF) (s : Int → Int) (Q : PO → PY → Nat → PC → Prop), (Wp 21 0 [some (pR l0), some (pI l1), some (pI l2), some (pI l3), some (pI l4)] [] LY nx (h, r, s) Q ↔ Wp 21 1 [some (pR l0), some (pI l1), some (pI l2), some (pI l3), some (pI l4)] [pR l0] LY nx (h, r, s) Q)) ∧
  (∀ (l0 : Int) (l1 : Int) (l2 : Int) (l3 : Int) (l4 : Int) (x0 : Int) (nx : Nat) (h r : PF) (s : Int → Int) (Q : PO → PY → Nat → PC → Prop), 0 < x0 → kd LY x0 = (0, 2) → r x0 10 = x0 + 6 → 0 < x0 + 6 → (Wp 21 1 [some (pR l0), some (pI l1), some (pI l2), some (pI l3), some (pI l4)] [pR x0] LY nx (h, r, s) Q ↔ Wp 21 4 [some (pR l0), some (pI l1), some (pI l2), some (pI l3), some (pI l4)] [pR (x0 + 6)] LY nx (h, r, s) Q)) ∧
  (∀ (l0 : Int) (l1 : Int) (l2 : Int) (l3 : Int) (l4 : Int) (x0 : Int) (nx : Nat) (h r : PF) (s : Int → Int) (Q : PO → PY → Nat → PC → Prop), (Wp 21 4 [some (pR l0), some (pI l1), some (pI l2), some (pI l3), some (pI l4)] [pR x0] LY nx (h, r, s) Q ↔ Wp 21 5 [some (pR l0), some (pI l1), some (pI l2), some (pI l3), some (pI l4)] [pI l1, pR x0] LY nx (h, r, s) Q)) ∧
  (∀ (l0 : Int) (l1 : Int) (l2 : Int) (l3 : Int) (l4 : Int) (x0 : Int) (x1 : Int) (nx : Nat) (h r : PF) (s : Int → Int) (Q : PO → PY → Nat → PC → Prop), (Wp 21 5 [some (pR l0), some (pI l1), some (pI l2), some (pI l3), some (pI l4)] [pI x1, pR x0] LY nx (h, r, s) Q ↔ Wp 21 7 [some (pR l0), some (pI l1), some (pI l2), some (pI l3), some (pI l4)] [pI 6, pI x1, pR x0] LY nx (h, r, s) Q)) ∧
  (∀ (l0 : Int) (l1 : Int) (l2 : Int) (l3 : Int) (l4 : Int) (x0 : Int) (x1 : Int) (x2 : Int) (nx : Nat) (h r : PF) (s : Int → Int) (Q : PO → PY → Nat → PC → Prop), (Wp 21 7 [some (pR l0), some (pI l1), some (pI l2), some (pI l3), some (pI l4)] [pI x2, pI x1, pR x0] LY nx (h, r, s) Q ↔ Wp 21 8 [some (pR l0), some (pI l1), some (pI l2), some (pI l3), some (pI l4)] [pI (w32 (x1 * x2)), pR x0] LY nx (h, r, s) Q)) ∧
  (∀ (l0 : Int) (l1 : Int) (l2 : Int) (l3 : Int) (l4 : Int) (x0 : Int) (x1 : Int) (nx : Nat) (h r : PF) (s : Int → Int) (Q : PO → PY → Nat → PC → Prop), (Wp 21 8 [some (pR l0), some (pI l1), some (pI l2), some (pI l3), some (pI l4)] [pI x1, pR x0] LY nx (h, r, s) Q ↔ Wp 21 9 [some (pR l0), some (pI l1), some (pI l2), some (pI l3), some (pI l4)] [pI l2, pI x1, pR x0] LY nx (h, r, s) Q)) ∧
  (∀ (l0 : Int) (l1 : Int) (l2 : Int) (l3 : Int) (l4 : Int) (x0 : Int) (x1 : Int) (x2 : Int) (nx : Nat) (h r : PF) (s : Int → Int) (Q : PO → PY → Nat → PC → Prop), (Wp 21 9 [some (pR l0), some (pI l1), some (pI l2), some (pI l3), some (pI l4)] [pI x2, pI x1, pR x0] LY nx (h, r, s) Q ↔ Wp 21 10 [some (pR l0), some (pI l1), some (pI l2), some (pI l3), some (pI l4)] [pI (w32 (x1 + x2)), pR x0] LY nx (h, r, s) Q)) ∧
  (∀ (l0 : Int) (l1 : Int) (l2 : Int) (l3 : Int) (l4 : Int) (x0 : Int) (x1 : Int) (nx : Nat) (h r : PF) (s : Int → Int) (Q : PO → PY → Nat → PC → Prop), (Wp 21 10 [some (pR l0), some (pI l1), some (pI l2), some (pI l3), some (pI l4)] [pI x1, pR x0] LY nx (h, r, s) Q ↔ Wp 21 11 [some (pR l0), some (pI l1), some (pI l2), some (pI l3), some (pI l4)] [pI 4, pI x1, pR x0] LY nx (h, r, s) Q)) ∧
  (∀ (l0 : Int) (l1 : Int) (l2 : Int) (l3 : Int) (l4 : Int) (x0 : Int) (x1 : Int) (x2 : Int) (nx : Nat) (h r : PF) (s : Int → Int) (Q : PO → PY → Nat → PC → Prop), (Wp 21 11 [some (pR l0), some (pI l1), some (pI l2), some (pI l3), some (pI l4)] [pI x2, pI x1, pR x0] LY nx (h, r, s) Q ↔ Wp 21 12 [some (pR l0), some (pI l1), some (pI l2), some (pI l3), some (pI l4)] [pI (w32 (x1 * x2)), pR x0] LY nx (h, r, s) Q)) ∧
  (∀ (l0 : Int) (l1 : Int) (l2 : Int) (l3 : Int) (l4 : Int) (x0 : Int) (x1 : Int) (nx : Nat) (h r : PF) (s : Int → Int) (Q : PO → PY → Nat → PC → Prop), (Wp 21 12 [some (pR l0), some (pI l1), some (pI l2), some (pI l3), some (pI l4)] [pI x1, pR x0] LY nx (h, r, s) Q ↔ Wp 21 13 [some (pR l0), some (pI l1), some (pI l2), some (pI l3), some (pI l4)] [pI l3, pI x1, pR x0] LY nx (h, r, s) Q)) ∧
  (∀ (l0 : Int) (l1 : Int) (l2 : Int) (l3 : Int) (l4 : Int) (x0 : Int) (x1 : Int) (x2 : Int) (nx : Nat) (h r : PF) (s : Int → Int) (Q : PO → PY → Nat → PC → Prop), (Wp 21 13 [some (pR l0), some (pI l1), some (pI l2), some (pI l3), some (pI l4)] [pI x2, pI x1, pR x0] LY nx (h, r, s) Q ↔ Wp 21 14 [some (pR l0), some (pI l1), some (pI l2), some (pI l3), some (pI l4)] [pI (w32 (x1 + x2)), pR x0] LY nx (h, r, s) Q)) ∧
  (∀ (l0 : Int) (l1 : Int) (l2 : Int) (l3 : Int) (l4 : Int) (x0 : Int) (x1 : Int) (nx : Nat) (h r : PF) (s : Int → Int) (Q : PO → PY → Nat → PC → Prop), (Wp 21 14 [some (pR l0), some (pI l1), some (pI l2), some (pI l3), some (pI l4)] [pI x1, pR x0] LY nx (h, r, s) Q ↔ Wp 21 16 [some (pR l0), some (pI l1), some (pI l2), some (pI l3), some (pI l4)] [pI l4, pI x1, pR x0] LY nx (h, r, s) Q)) ∧
  (∀ (l0 : Int) (l1 : Int) (l2 : Int) (l3 : Int) (l4 : Int) (x0 : Int) (x1 : Int) (x2 : Int) (nx : Nat) (h r : PF) (s : Int → Int) (Q : PO → PY → Nat → PC → Prop), 0 < x0 → kd LY x0 = (1, 96) → 0 ≤ x1 → x1 < 96 → (Wp 21 16 [some (pR l0), some (pI l1), some (pI l2), some (pI l3), some (pI l4)] [pI x2, pI x1, pR x0] LY nx (h, r, s) Q ↔ Wp 21 17 [some (pR l0), some (pI l1), some (pI l2), some (pI l3), some (pI l4)] [] LY nx (fup h x0 x1 x2, r, s) Q)) ∧
  (∀ (l0 : Int) (l1 : Int) (l2 : Int) (l3 : Int) (l4 : Int) (nx : Nat) (h r : PF) (s : Int → Int) (Q : PO → PY → Nat → PC → Prop), (Wp 21 17 [some (pR l0), some (pI l1), some (pI l2), some (pI l3), some (pI l4)] [] LY nx (h, r, s) Q ↔ Q (Sum.inl none) LY nx (h, r, s))) :=
  ⟨fun l0 l1 l2 l3 l4 nx h r s Q  => o_aload_n (by decide +kernel : pcode 21 0 = some (10, 0, 0, 0, 0)) rfl,
  fun l0 l1 l2 l3 l4 x0 nx h r s Q h0 hk h9 h8 => o_getR (h := (h, r, s)) (by decide +kernel : pcode 21 1 = some (57, 406, 2, 10, 27)) h0 hk h9 h8,
  fun l0 l1 l2 l3 l4 x0 nx h r s Q  => o_iload_n (by decide +kernel : pcode 21 4 = some (6, 1, 0, 0, 0)) rfl,
  fun l0 l1 l2 l3 l4 x0 x1 nx h r s Q  => o_bipush (by decide +kernel : pcode 21 5 = some (2, 0, 0, 0, 6)),
  fun l0 l1 l2 l3 l4 x0 x1 x2 nx h r s Q  => o_imul (by decide +kernel : pcode 21 7 = some (21, 0, 0, 0, 0)),
  fun l0 l1 l2 l3 l4 x0 x1 nx h r s Q  => o_iload_n (by decide +kernel : pcode 21 8 = some (6, 2, 0, 0, 0)) rfl,
  fun l0 l1 l2 l3 l4 x0 x1 x2 nx h r s Q  => o_iadd (by decide +kernel : pcode 21 9 = some (19, 0, 0, 0, 0)),
  fun l0 l1 l2 l3 l4 x0 x1 nx h r s Q  => o_iconst (by decide +kernel : pcode 21 10 = some (1, 0, 0, 0, 4)),
  fun l0 l1 l2 l3 l4 x0 x1 x2 nx h r s Q  => o_imul (by decide +kernel : pcode 21 11 = some (21, 0, 0, 0, 0)),
  fun l0 l1 l2 l3 l4 x0 x1 nx h r s Q  => o_iload_n (by decide +kernel : pcode 21 12 = some (6, 3, 0, 0, 0)) rfl,
  fun l0 l1 l2 l3 l4 x0 x1 x2 nx h r s Q  => o_iadd (by decide +kernel : pcode 21 13 = some (19, 0, 0, 0, 0)),
  fun l0 l1 l2 l3 l4 x0 x1 nx h r s Q  => o_iload (by decide +kernel : pcode 21 14 = some (7, 4, 0, 0, 0)) rfl,
  fun l0 l1 l2 l3 l4 x0 x1 x2 nx h r s Q h0 hk hi hn => o_iast (h := (h, r, s)) (n := 96) (by decide +kernel : pcode 21 16 = some (64, 0, 0, 0, 0)) h0 hk hi hn,
  fun l0 l1 l2 l3 l4 nx h r s Q  => o_vret (by decide +kernel : pcode 21 17 = some (90, 0, 0, 0, 0))⟩
set_option maxHeartbeats 4000000 in
set_option maxRecDepth 10000 in
theorem st_X2_isGoal :
  (∀ (l0 : Int) (l1 : Int) (l2 : Int) (nx : Nat) (h r : PF) (s : Int → Int) (Q : PO → PY → Nat → PC → Prop), (Wp 22 0 [some (pR l0), some (pI l1), some (pI l2)] [] LY nx (h, r, s) Q ↔ Wp 22 1 [some (pR l0), some (pI l1), some (pI l2)] [pR l0] LY nx (h, r, s) Q)) ∧
  (∀ (l0 : Int) (l1 : Int) (l2 : Int) (x0 : Int) (nx : Nat) (h r : PF) (s : Int → Int) (Q : PO → PY → Nat → PC → Prop), 0 < x0 → kd LY x0 = (0, 2) → r x0 8 = x0 + 4 → 0 < x0 + 4 → (Wp 22 1 [some (pR l0), some (pI l1), some (pI l2)] [pR x0] LY nx (h, r, s) Q ↔ Wp 22 4 [some (pR l0), some (pI l1), some (pI l2)] [pR (x0 + 4)] LY nx (h, r, s) Q)) ∧
  (∀ (l0 : Int) (l1 : Int) (l2 : Int) (x0 : Int) (nx : Nat) (h r : PF) (s : Int → Int) (Q : PO → PY → Nat → PC → Prop), (Wp 22 4 [some (pR l0), some (pI l1), some (pI l2)] [pR x0] LY nx (h, r, s) Q ↔ Wp 22 5 [some (pR l0), some (pI l1), some (pI l2)] [pI l1, pR x0] LY nx (h, r, s) Q)) ∧
  (∀ (l0 : Int) (l1 : Int) (l2 : Int) (x0 : Int) (x1 : Int) (nx : Nat) (h r : PF) (s : Int → Int) (Q : PO → PY → Nat → PC → Prop), 0 < x0 → kd LY x0 = (1, 4) → 0 ≤ x1 → x1 < 4 → (Wp 22 5 [some (pR l0), some (pI l1), some (pI l2)] [pI x1, pR x0] LY nx (h, r, s) Q ↔ Wp 22 6 [some (pR l0), some (pI l1), some (pI l2)] [pI (h x0 x1)] LY nx (h, r, s) Q)) ∧
  (∀ (l0 : Int) (l1 : Int) (l2 : Int) (x0 : Int) (nx : Nat) (h r : PF) (s : Int → Int) (Q : PO → PY → Nat → PC → Prop), (Wp 22 6 [some (pR l0), some (pI l1), some (pI l2)] [pI x0] LY nx (h, r, s) Q ↔ Wp 22 7 [some (pR l0), some (pI l1), some (pI l2)] [pI l2, pI x0] LY nx (h, r, s) Q)) ∧
  (∀ (l0 : Int) (l1 : Int) (l2 : Int) (x0 : Int) (x1 : Int) (nx : Nat) (h r : PF) (s : Int → Int) (Q : PO → PY → Nat → PC → Prop), (Wp 22 7 [some (pR l0), some (pI l1), some (pI l2)] [pI x1, pI x0] LY nx (h, r, s) Q ↔ Wp 22 8 [some (pR l0), some (pI l1), some (pI l2)] [pI (pshr x0 x1)] LY nx (h, r, s) Q)) ∧
  (∀ (l0 : Int) (l1 : Int) (l2 : Int) (x0 : Int) (nx : Nat) (h r : PF) (s : Int → Int) (Q : PO → PY → Nat → PC → Prop), (Wp 22 8 [some (pR l0), some (pI l1), some (pI l2)] [pI x0] LY nx (h, r, s) Q ↔ Wp 22 9 [some (pR l0), some (pI l1), some (pI l2)] [pI 1, pI x0] LY nx (h, r, s) Q)) ∧
  (∀ (l0 : Int) (l1 : Int) (l2 : Int) (x0 : Int) (x1 : Int) (nx : Nat) (h r : PF) (s : Int → Int) (Q : PO → PY → Nat → PC → Prop), (Wp 22 9 [some (pR l0), some (pI l1), some (pI l2)] [pI x1, pI x0] LY nx (h, r, s) Q ↔ Wp 22 10 [some (pR l0), some (pI l1), some (pI l2)] [pI (pand x0 x1)] LY nx (h, r, s) Q)) ∧
  (∀ (l0 : Int) (l1 : Int) (l2 : Int) (x0 : Int) (nx : Nat) (h r : PF) (s : Int → Int) (Q : PO → PY → Nat → PC → Prop), (Wp 22 10 [some (pR l0), some (pI l1), some (pI l2)] [pI x0] LY nx (h, r, s) Q ↔ Wp 22 11 [some (pR l0), some (pI l1), some (pI l2)] [pI 1, pI x0] LY nx (h, r, s) Q)) ∧
  (∀ (l0 : Int) (l1 : Int) (l2 : Int) (x0 : Int) (x1 : Int) (nx : Nat) (h r : PF) (s : Int → Int) (Q : PO → PY → Nat → PC → Prop), (Wp 22 11 [some (pR l0), some (pI l1), some (pI l2)] [pI x1, pI x0] LY nx (h, r, s) Q ↔ (if x0 ≠ x1 then Wp 22 18 [some (pR l0), some (pI l1), some (pI l2)] [] LY nx (h, r, s) Q else Wp 22 14 [some (pR l0), some (pI l1), some (pI l2)] [] LY nx (h, r, s) Q))) ∧
  (∀ (l0 : Int) (l1 : Int) (l2 : Int) (nx : Nat) (h r : PF) (s : Int → Int) (Q : PO → PY → Nat → PC → Prop), (Wp 22 14 [some (pR l0), some (pI l1), some (pI l2)] [] LY nx (h, r, s) Q ↔ Wp 22 15 [some (pR l0), some (pI l1), some (pI l2)] [pI 1] LY nx (h, r, s) Q)) ∧
  (∀ (l0 : Int) (l1 : Int) (l2 : Int) (x0 : Int) (nx : Nat) (h r : PF) (s : Int → Int) (Q : PO → PY → Nat → PC → Prop), (Wp 22 15 [some (pR l0), some (pI l1), some (pI l2)] [pI x0] LY nx (h, r, s) Q ↔ Wp 22 19 [some (pR l0), some (pI l1), some (pI l2)] [pI x0] LY nx (h, r, s) Q)) ∧
  (∀ (l0 : Int) (l1 : Int) (l2 : Int) (nx : Nat) (h r : PF) (s : Int → Int) (Q : PO → PY → Nat → PC → Prop), (Wp 22 18 [some (pR l0), some (pI l1), some (pI l2)] [] LY nx (h, r, s) Q ↔ Wp 22 19 [some (pR l0), some (pI l1), some (pI l2)] [pI 0] LY nx (h, r, s) Q)) ∧
  (∀ (l0 : Int) (l1 : Int) (l2 : Int) (x0 : Int) (nx : Nat) (h r : PF) (s : Int → Int) (Q : PO → PY → Nat → PC → Prop), x0 = 0 ∨ x0 = 1 → (Wp 22 19 [some (pR l0), some (pI l1), some (pI l2)] [pI x0] LY nx (h, r, s) Q ↔ Q (Sum.inl (some (pI x0))) LY nx (h, r, s))) :=
  ⟨fun l0 l1 l2 nx h r s Q  => o_aload_n (by decide +kernel : pcode 22 0 = some (10, 0, 0, 0, 0)) rfl,
  fun l0 l1 l2 x0 nx h r s Q h0 hk h9 h8 => o_getR (h := (h, r, s)) (by decide +kernel : pcode 22 1 = some (57, 401, 2, 8, 21)) h0 hk h9 h8,
  fun l0 l1 l2 x0 nx h r s Q  => o_iload_n (by decide +kernel : pcode 22 4 = some (6, 1, 0, 0, 0)) rfl,
  fun l0 l1 l2 x0 x1 nx h r s Q h0 hk hi hn => o_iald (h := (h, r, s)) (n := 4) (by decide +kernel : pcode 22 5 = some (63, 0, 0, 0, 0)) h0 hk hi hn,
  fun l0 l1 l2 x0 nx h r s Q  => o_iload_n (by decide +kernel : pcode 22 6 = some (6, 2, 0, 0, 0)) rfl,
  fun l0 l1 l2 x0 x1 nx h r s Q  => o_ishr (by decide +kernel : pcode 22 7 = some (27, 0, 0, 0, 0)),
  fun l0 l1 l2 x0 nx h r s Q  => o_iconst (by decide +kernel : pcode 22 8 = some (1, 0, 0, 0, 1)),
  fun l0 l1 l2 x0 x1 nx h r s Q  => o_iand (by decide +kernel : pcode 22 9 = some (22, 0, 0, 0, 0)),
  fun l0 l1 l2 x0 nx h r s Q  => o_iconst (by decide +kernel : pcode 22 10 = some (1, 0, 0, 0, 1)),
  fun l0 l1 l2 x0 x1 nx h r s Q  => o_icmp_ne (by decide +kernel : pcode 22 11 = some (48, 18, 0, 0, 7)),
  fun l0 l1 l2 nx h r s Q  => o_iconst (by decide +kernel : pcode 22 14 = some (1, 0, 0, 0, 1)),
  fun l0 l1 l2 x0 nx h r s Q  => o_goto (by decide +kernel : pcode 22 15 = some (53, 19, 0, 0, 4)),
  fun l0 l1 l2 nx h r s Q  => o_iconst (by decide +kernel : pcode 22 18 = some (1, 0, 0, 0, 0)),
  fun l0 l1 l2 x0 nx h r s Q hz => o_zret (by decide +kernel : pcode 22 19 = some (88, 0, 0, 0, 0)) hz⟩
set_option maxHeartbeats 4000000 in
set_option maxRecDepth 10000 in
theorem st_X2_isListening :
  (∀ (l0 : Int) (l1 : Int) (nx : Nat) (h r : PF) (s : Int → Int) (Q : PO → PY → Nat → PC → Prop), (Wp 23 0 [some (pR l0), some (pI l1)] [] LY nx (h, r, s) Q ↔ Wp 23 1 [some (pR l0), some (pI l1)] [pR l0] LY nx (h, r, s) Q)) ∧
  (∀ (l0 : Int) (l1 : Int) (x0 : Int) (nx : Nat) (h r : PF) (s : Int → Int) (Q : PO → PY → Nat → PC → Prop), 0 < x0 → kd LY x0 = (0, 2) → (Wp 23 1 [some (pR l0), some (pI l1)] [pR x0] LY nx (h, r, s) Q ↔ Wp 23 4 [some (pR l0), some (pI l1)] [pI (h x0 2)] LY nx (h, r, s) Q)) ∧
  (∀ (l0 : Int) (l1 : Int) (x0 : Int) (nx : Nat) (h r : PF) (s : Int → Int) (Q : PO → PY → Nat → PC → Prop), (Wp 23 4 [some (pR l0), some (pI l1)] [pI x0] LY nx (h, r, s) Q ↔ Wp 23 5 [some (pR l0), some (pI l1)] [pI l1, pI x0] LY nx (h, r, s) Q)) ∧
  (∀ (l0 : Int) (l1 : Int) (x0 : Int) (x1 : Int) (nx : Nat) (h r : PF) (s : Int → Int) (Q : PO → PY → Nat → PC → Prop), (Wp 23 5 [some (pR l0), some (pI l1)] [pI x1, pI x0] LY nx (h, r, s) Q ↔ Wp 23 6 [some (pR l0), some (pI l1)] [pI (pshr x0 x1)] LY nx (h, r, s) Q)) ∧
  (∀ (l0 : Int) (l1 : Int) (x0 : Int) (nx : Nat) (h r : PF) (s : Int → Int) (Q : PO → PY → Nat → PC → Prop), (Wp 23 6 [some (pR l0), some (pI l1)] [pI x0] LY nx (h, r, s) Q ↔ Wp 23 7 [some (pR l0), some (pI l1)] [pI 1, pI x0] LY nx (h, r, s) Q)) ∧
  (∀ (l0 : Int) (l1 : Int) (x0 : Int) (x1 : Int) (nx : Nat) (h r : PF) (s : Int → Int) (Q : PO → PY → Nat → PC → Prop), (Wp 23 7 [some (pR l0), some (pI l1)] [pI x1, pI x0] LY nx (h, r, s) Q ↔ Wp 23 8 [some (pR l0), some (pI l1)] [pI (pand x0 x1)] LY nx (h, r, s) Q)) ∧
  (∀ (l0 : Int) (l1 : Int) (x0 : Int) (nx : Nat) (h r : PF) (s : Int → Int) (Q : PO → PY → Nat → PC → Prop), (Wp 23 8 [some (pR l0), some (pI l1)] [pI x0] LY nx (h, r, s) Q ↔ Wp 23 9 [some (pR l0), some (pI l1)] [pI 1, pI x0] LY nx (h, r, s) Q)) ∧
  (∀ (l0 : Int) (l1 : Int) (x0 : Int) (x1 : Int) (nx : Nat) (h r : PF) (s : Int → Int) (Q : PO → PY → Nat → PC → Prop), (Wp 23 9 [some (pR l0), some (pI l1)] [pI x1, pI x0] LY nx (h, r, s) Q ↔ (if x0 ≠ x1 then Wp 23 16 [some (pR l0), some (pI l1)] [] LY nx (h, r, s) Q else Wp 23 12 [some (pR l0), some (pI l1)] [] LY nx (h, r, s) Q))) ∧
  (∀ (l0 : Int) (l1 : Int) (nx : Nat) (h r : PF) (s : Int → Int) (Q : PO → PY → Nat → PC → Prop), (Wp 23 12 [some (pR l0), some (pI l1)] [] LY nx (h, r, s) Q ↔ Wp 23 13 [some (pR l0), some (pI l1)] [pI 1] LY nx (h, r, s) Q)) ∧
  (∀ (l0 : Int) (l1 : Int) (x0 : Int) (nx : Nat) (h r : PF) (s : Int → Int) (Q : PO → PY → Nat → PC → Prop), (Wp 23 13 [some (pR l0), some (pI l1)] [pI x0] LY nx (h, r, s) Q ↔ Wp 23 17 [some (pR l0), some (pI l1)] [pI x0] LY nx (h, r, s) Q)) ∧
  (∀ (l0 : Int) (l1 : Int) (nx : Nat) (h r : PF) (s : Int → Int) (Q : PO → PY → Nat → PC → Prop), (Wp 23 16 [some (pR l0), some (pI l1)] [] LY nx (h, r, s) Q ↔ Wp 23 17 [some (pR l0), some (pI l1)] [pI 0] LY nx (h, r, s) Q)) ∧
  (∀ (l0 : Int) (l1 : Int) (x0 : Int) (nx : Nat) (h r : PF) (s : Int → Int) (Q : PO → PY → Nat → PC → Prop), x0 = 0 ∨ x0 = 1 → (Wp 23 17 [some (pR l0), some (pI l1)] [pI x0] LY nx (h, r, s) Q ↔ Q (Sum.inl (some (pI x0))) LY nx (h, r, s))) :=
  ⟨fun l0 l1 nx h r s Q  => o_aload_n (by decide +kernel : pcode 23 0 = some (10, 0, 0, 0, 0)) rfl,
  fun l0 l1 x0 nx h r s Q h0 hk => o_getI (by decide +kernel : pcode 23 1 = some (55, 381, 2, 2, 40)) h0 hk,
  fun l0 l1 x0 nx h r s Q  => o_iload_n (by decide +kernel : pcode 23 4 = some (6, 1, 0, 0, 0)) rfl,
  fun l0 l1 x0 x1 nx h r s Q  => o_ishr (by decide +kernel : pcode 23 5 = some (27, 0, 0, 0, 0)),
  fun l0 l1 x0 nx h r s Q  => o_iconst (by decide +kernel : pcode 23 6 = some (1, 0, 0, 0, 1)),
  fun l0 l1 x0 x1 nx h r s Q  => o_iand (by decide +kernel : pcode 23 7 = some (22, 0, 0, 0, 0)),
  fun l0 l1 x0 nx h r s Q  => o_iconst (by decide +kernel : pcode 23 8 = some (1, 0, 0, 0, 1)),
  fun l0 l1 x0 x1 nx h r s Q  => o_icmp_ne (by decide +kernel : pcode 23 9 = some (48, 16, 0, 0, 7)),
  fun l0 l1 nx h r s Q  => o_iconst (by decide +kernel : pcode 23 12 = some (1, 0, 0, 0, 1)),
  fun l0 l1 x0 nx h r s Q  => o_goto (by decide +kernel : pcode 23 13 = some (53, 17, 0, 0, 4)),
  fun l0 l1 nx h r s Q  => o_iconst (by decide +kernel : pcode 23 16 = some (1, 0, 0, 0, 0)),
  fun l0 l1 x0 nx h r s Q hz => o_zret (by decide +kernel : pcode 23 17 = some (88, 0, 0, 0, 0)) hz⟩
