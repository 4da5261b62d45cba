set_option maxHeartbeats 4000000 in
set_option maxRecDepth 10000 in
theorem st_X1_keep :
  (∀ (l1 : Int) (nx : Nat) (h r : PF) (s : Int → Int) (Q : PO → PY → Nat → PC → Prop), (Wp 13 0 [some (pR 21), some (pR l1)] [] LY nx (h, r, s) Q ↔ Wp 13 1 [some (pR 21), some (pR l1)] [pR 21] LY nx (h, r, s) Q)) ∧
  (∀ (l1 : Int) (nx : Nat) (h r : PF) (s : Int → Int) (Q : PO → PY → Nat → PC → Prop), WFr r → (Wp 13 1 [some (pR 21), some (pR l1)] [pR 21] LY nx (h, r, s) Q ↔ Wp 13 4 [some (pR 21), some (pR l1)] [pR 22] LY nx (h, r, s) Q)) ∧
  (∀ (l1 : Int) (nx : Nat) (h r : PF) (s : Int → Int) (Q : PO → PY → Nat → PC → Prop), (Wp 13 4 [some (pR 21), some (pR l1)] [pR 22] LY nx (h, r, s) Q ↔ Wp 13 5 [some (pR 21), some (pR l1)] [pR 21, pR 22] LY nx (h, r, s) Q)) ∧
  (∀ (l1 : Int) (nx : Nat) (h r : PF) (s : Int → Int) (Q : PO → PY → Nat → PC → Prop), (Wp 13 5 [some (pR 21), some (pR l1)] [pR 21, pR 22] LY nx (h, r, s) Q ↔ Wp 13 8 [some (pR 21), some (pR l1)] [pI (h 21 1), pR 22] LY nx (h, r, s) Q)) ∧
  (∀ (l1 : Int) (x1 : Int) (nx : Nat) (h r : PF) (s : Int → Int) (Q : PO → PY → Nat → PC → Prop), 0 ≤ x1 → x1 < 10 → 0 < r 22 x1 → (Wp 13 8 [some (pR 21), some (pR l1)] [pI x1, pR 22] LY nx (h, r, s) Q ↔ Wp 13 9 [some (pR 21), some (pR l1)] [pR (r 22 x1)] LY nx (h, r, s) Q)) ∧
  (∀ (l1 : Int) (x0 : Int) (nx : Nat) (h r : PF) (s : Int → Int) (Q : PO → PY → Nat → PC → Prop), (Wp 13 9 [some (pR 21), some (pR l1)] [pR x0] LY nx (h, r, s) Q ↔ Wp 13 10 [some (pR 21), some (pR l1)] [pR l1, pR x0] LY nx (h, r, s) Q)) ∧
  (∀ (l1 : Int) (x0 : Int) (x1 : Int) (nx : Nat) (h r : PF) (s : Int → Int) (Q : PO → PY → Nat → PC → Prop), 0 < x0 → kd LY x0 = (0, 5) → (Wp 13 10 [some (pR 21), some (pR l1)] [pR x1, pR x0] LY nx (h, r, s) Q ↔ Wp 55 0 [some (pR x0), some (pR x1)] [] LY nx (h, r, s) (Kc 13 10 [some (pR 21), some (pR l1)] 13 [] Q))) ∧
  (∀ (l1 : Int) (nx : Nat) (h r : PF) (s : Int → Int) (Q : PO → PY → Nat → PC → Prop), (Wp 13 13 [some (pR 21), some (pR l1)] [] LY nx (h, r, s) Q ↔ Wp 13 14 [some (pR 21), some (pR l1)] [pR 21] LY nx (h, r, s) Q)) ∧
  (∀ (l1 : Int) (nx : Nat) (h r : PF) (s : Int → Int) (Q : PO → PY → Nat → PC → Prop), (Wp 13 14 [some (pR 21), some (pR l1)] [pR 21] LY nx (h, r, s) Q ↔ Wp 13 15 [some (pR 21), some (pR l1)] [pR 21, pR 21] LY nx (h, r, s) Q)) ∧
  (∀ (l1 : Int) (nx : Nat) (h r : PF) (s : Int → Int) (Q : PO → PY → Nat → PC → Prop), (Wp 13 15 [some (pR 21), some (pR l1)] [pR 21, pR 21] LY nx (h, r, s) Q ↔ Wp 13 18 [some (pR 21), some (pR l1)] [pI (h 21 1), pR 21] LY nx (h, r, s) Q)) ∧
  (∀ (l1 : Int) (x1 : Int) (nx : Nat) (h r : PF) (s : Int → Int) (Q : PO → PY → Nat → PC → Prop), (Wp 13 18 [some (pR 21), some (pR l1)] [pI x1, pR 21] LY nx (h, r, s) Q ↔ Wp 13 19 [some (pR 21), some (pR l1)] [pI 1, pI x1, pR 21] LY nx (h, r, s) Q)) ∧
  (∀ (l1 : Int) (x1 : Int) (x2 : Int) (nx : Nat) (h r : PF) (s : Int → Int) (Q : PO → PY → Nat → PC → Prop), (Wp 13 19 [some (pR 21), some (pR l1)] [pI x2, pI x1, pR 21] LY nx (h, r, s) Q ↔ Wp 13 20 [some (pR 21), some (pR l1)] [pI (w32 (x1 + x2)), pR 21] LY nx (h, r, s) Q)) ∧
  (∀ (l1 : Int) (x1 : Int) (nx : Nat) (h r : PF) (s : Int → Int) (Q : PO → PY → Nat → PC → Prop), (Wp 13 20 [some (pR 21), some (pR l1)] [pI x1, pR 21] LY nx (h, r, s) Q ↔ Wp 13 22 [some (pR 21), some (pR l1)] [pI 10, pI x1, pR 21] LY nx (h, r, s) Q)) ∧
  (∀ (l1 : Int) (x1 : Int) (x2 : Int) (nx : Nat) (h r : PF) (s : Int → Int) (Q : PO → PY → Nat → PC → Prop), (Wp 13 22 [some (pR 21), some (pR l1)] [pI x2, pI x1, pR 21] LY nx (h, r, s) Q ↔ (if x2 ≤ x1 then Wp 13 34 [some (pR 21), some (pR l1)] [pR 21] LY nx (h, r, s) Q else Wp 13 25 [some (pR 21), some (pR l1)] [pR 21] LY nx (h, r, s) Q))) ∧
  (∀ (l1 : Int) (nx : Nat) (h r : PF) (s : Int → Int) (Q : PO → PY → Nat → PC → Prop), (Wp 13 25 [some (pR 21), some (pR l1)] [pR 21] LY nx (h, r, s) Q ↔ Wp 13 26 [some (pR 21), some (pR l1)] [pR 21, pR 21] LY nx (h, r, s) Q)) ∧
  (∀ (l1 : Int) (nx : Nat) (h r : PF) (s : Int → Int) (Q : PO → PY → Nat → PC → Prop), (Wp 13 26 [some (pR 21), some (pR l1)] [pR 21, pR 21] LY nx (h, r, s) Q ↔ Wp 13 29 [some (pR 21), some (pR l1)] [pI (h 21 1), pR 21] LY nx (h, r, s) Q)) ∧
  (∀ (l1 : Int) (x1 : Int) (nx : Nat) (h r : PF) (s : Int → Int) (Q : PO → PY → Nat → PC → Prop), (Wp 13 29 [some (pR 21), some (pR l1)] [pI x1, pR 21] LY nx (h, r, s) Q ↔ Wp 13 30 [some (pR 21), some (pR l1)] [pI 1, pI x1, pR 21] LY nx (h, r, s) Q)) ∧
  (∀ (l1 : Int) (x1 : Int) (x2 : Int) (nx : Nat) (h r : PF) (s : Int → Int) (Q : PO → PY → Nat → PC → Prop), (Wp 13 30 [some (pR 21), some (pR l1)] [pI x2, pI x1, pR 21] LY nx (h, r, s) Q ↔ Wp 13 31 [some (pR 21), some (pR l1)] [pI (w32 (x1 + x2)), pR 21] LY nx (h, r, s) Q)) ∧
  (∀ (l1 : Int) (x1 : Int) (nx : Nat) (h r : PF) (s : Int → Int) (Q : PO → PY → Nat → PC → Prop), (Wp 13 31 [some (pR 21), some (pR l1)] [pI x1, pR 21] LY nx (h, r, s) Q ↔ Wp 13 35 [some (pR 21), some (pR l1)] [pI x1, pR 21] LY nx (h, r, s) Q)) ∧
  (∀ (l1 : Int) (nx : Nat) (h r : PF) (s : Int → Int) (Q : PO → PY → Nat → PC → Prop), (Wp 13 34 [some (pR 21), some (pR l1)] [pR 21] LY nx (h, r, s) Q ↔ Wp 13 35 [some (pR 21), some (pR l1)] [pI 0, pR 21] LY nx (h, r, s) Q)) ∧
  (∀ (l1 : Int) (x1 : Int) (nx : Nat) (h r : PF) (s : Int → Int) (Q : PO → PY → Nat → PC → Prop), (Wp 13 35 [some (pR 21), some (pR l1)] [pI x1, pR 21] LY nx (h, r, s) Q ↔ Wp 13 38 [some (pR 21), some (pR l1)] [] LY nx (fup h 21 1 x1, r, s) Q)) ∧
  (∀ (l1 : Int) (nx : Nat) (h r : PF) (s : Int → Int) (Q : PO → PY → Nat → PC → Prop), (Wp 13 38 [some (pR 21), some (pR l1)] [] LY nx (h, r, s) Q ↔ Wp 13 39 [some (pR 21), some (pR l1)] [pR 21] LY nx (h, r, s) Q)) ∧
  (∀ (l1 : Int) (nx : Nat) (h r : PF) (s : Int → Int) (Q : PO → PY → Nat → PC → Prop), (Wp 13 39 [some (pR 21), some (pR l1)] [pR 21] LY nx (h, r, s) Q ↔ Wp 13 40 [some (pR 21), some (pR l1)] [pR 21, pR 21] LY nx (h, r, s) Q)) ∧
  (∀ (l1 : Int) (nx : Nat) (h r : PF) (s : Int → Int) (Q : PO → PY → Nat → PC → Prop), (Wp 13 40 [some (pR 21), some (pR l1)] [pR 21, pR 21] LY nx (h, r, s) Q ↔ Wp 13 43 [some (pR 21), some (pR l1)] [pI (h 21 0), pR 21] LY nx (h, r, s) Q)) ∧
  (∀ (l1 : Int) (x1 : Int) (nx : Nat) (h r : PF) (s : Int → Int) (Q : PO → PY → Nat → PC → Prop), (Wp 13 43 [some (pR 21), some (pR l1)] [pI x1, pR 21] LY nx (h, r, s) Q ↔ Wp 13 44 [some (pR 21), some (pR l1)] [pI 1, pI x1, pR 21] LY nx (h, r, s) Q)) ∧
  (∀ (l1 : Int) (x1 : Int) (x2 : Int) (nx : Nat) (h r : PF) (s : Int → Int) (Q : PO → PY → Nat → PC → Prop), (Wp 13 44 [some (pR 21), some (pR l1)] [pI x2, pI x1, pR 21] LY nx (h, r, s) Q ↔ Wp 13 45 [some (pR 21), some (pR l1)] [pI (w32 (x1 + x2)), pR 21] LY nx (h, r, s) Q)) ∧
  (∀ (l1 : Int) (x1 : Int) (nx : Nat) (h r : PF) (s : Int → Int) (Q : PO → PY → Nat → PC → Prop), (Wp 13 45 [some (pR 21), some (pR l1)] [pI x1, pR 21] LY nx (h, r, s) Q ↔ Wp 13 47 [some (pR 21), some (pR l1)] [pI 10, pI x1, pR 21] LY nx (h, r, s) Q)) ∧
  (∀ (l1 : Int) (x1 : Int) (x2 : Int) (nx : Nat) (h r : PF) (s : Int → Int) (Q : PO → PY → Nat → PC → Prop), (Wp 13 47 [some (pR 21), some (pR l1)] [pI x2, pI x1, pR 21] LY nx (h, r, s) Q ↔ Wp 13 50 [some (pR 21), some (pR l1)] [pI (if x2 < x1 then x2 else x1), pR 21] LY nx (h, r, s) Q)) ∧
  (∀ (l1 : Int) (x1 : Int) (nx : Nat) (h r : PF) (s : Int → Int) (Q : PO → PY → Nat → PC → Prop), (Wp 13 50 [some (pR 21), some (pR l1)] [pI x1, pR 21] LY nx (h, r, s) Q ↔ Wp 13 53 [some (pR 21), some (pR l1)] [] LY nx (fup h 21 0 x1, r, s) Q)) ∧
  (∀ (l1 : Int) (nx : Nat) (h r : PF) (s : Int → Int) (Q : PO → PY → Nat → PC → Prop), (Wp 13 53 [some (pR 21), some (pR l1)] [] LY nx (h, r, s) Q ↔ Q (Sum.inl none) LY nx (h, r, s))) :=
  ⟨fun l1 nx h r s Q  => o_aload_n (by decide +kernel : pcode 13 0 = some (10, 0, 0, 0, 0)) rfl,
  fun l1 nx h r s Q hw => o_getR (h := (h, r, s)) (by decide +kernel : pcode 13 1 = some (57, 342, 1, 3, 11)) (by decide) (by decide +kernel) (hw _ (List.mem_of_getElem? (i := 20) rfl)) (by decide),
  fun l1 nx h r s Q  => o_aload_n (by decide +kernel : pcode 13 4 = some (10, 0, 0, 0, 0)) rfl,
  fun l1 nx h r s Q  => o_getI (by decide +kernel : pcode 13 5 = some (55, 340, 1, 1, 28)) (by decide) (by decide +kernel),
  fun l1 x1 nx h r s Q hi hn h9 => o_aald (h := (h, r, s)) (n := 10) (by decide +kernel : pcode 13 8 = some (71, 0, 0, 0, 0)) (by decide) (by decide +kernel) hi hn rfl h9,
  fun l1 x0 nx h r s Q  => o_aload_n (by decide +kernel : pcode 13 9 = some (10, 1, 0, 0, 0)) rfl,
  fun l1 x0 x1 nx h r s Q h0 hk => o_ivV (s1 := [pR x1]) (s2 := []) (o := x0) (by decide +kernel : pcode 13 10 = some (78, 55, 2, 561, 31)) rfl (Nat.le_of_ble_eq_true rfl) h0 hk rfl rfl rfl,
  fun l1 nx h r s Q  => o_aload_n (by decide +kernel : pcode 13 13 = some (10, 0, 0, 0, 0)) rfl,
  fun l1 nx h r s Q  => o_aload_n (by decide +kernel : pcode 13 14 = some (10, 0, 0, 0, 0)) rfl,
  fun l1 nx h r s Q  => o_getI (by decide +kernel : pcode 13 15 = some (55, 340, 1, 1, 28)) (by decide) (by decide +kernel),
  fun l1 x1 nx h r s Q  => o_iconst (by decide +kernel : pcode 13 18 = some (1, 0, 0, 0, 1)),
  fun l1 x1 x2 nx h r s Q  => o_iadd (by decide +kernel : pcode 13 19 = some (19, 0, 0, 0, 0)),
  fun l1 x1 nx h r s Q  => o_bipush (by decide +kernel : pcode 13 20 = some (2, 0, 0, 0, 10)),
  fun l1 x1 x2 nx h r s Q  => o_icmp_ge (by decide +kernel : pcode 13 22 = some (50, 34, 0, 0, 12)),
  fun l1 nx h r s Q  => o_aload_n (by decide +kernel : pcode 13 25 = some (10, 0, 0, 0, 0)) rfl,
  fun l1 nx h r s Q  => o_getI (by decide +kernel : pcode 13 26 = some (55, 340, 1, 1, 28)) (by decide) (by decide +kernel),
  fun l1 x1 nx h r s Q  => o_iconst (by decide +kernel : pcode 13 29 = some (1, 0, 0, 0, 1)),
  fun l1 x1 x2 nx h r s Q  => o_iadd (by decide +kernel : pcode 13 30 = some (19, 0, 0, 0, 0)),
  fun l1 x1 nx h r s Q  => o_goto (by decide +kernel : pcode 13 31 = some (53, 35, 0, 0, 4)),
  fun l1 nx h r s Q  => o_iconst (by decide +kernel : pcode 13 34 = some (1, 0, 0, 0, 0)),
  fun l1 x1 nx h r s Q  => o_putI (by decide +kernel : pcode 13 35 = some (58, 340, 1, 1, 28)) (by decide) (by decide +kernel),
  fun l1 nx h r s Q  => o_aload_n (by decide +kernel : pcode 13 38 = some (10, 0, 0, 0, 0)) rfl,
  fun l1 nx h r s Q  => o_aload_n (by decide +kernel : pcode 13 39 = some (10, 0, 0, 0, 0)) rfl,
  fun l1 nx h r s Q  => o_getI (by decide +kernel : pcode 13 40 = some (55, 338, 1, 0, 21)) (by decide) (by decide +kernel),
  fun l1 x1 nx h r s Q  => o_iconst (by decide +kernel : pcode 13 43 = some (1, 0, 0, 0, 1)),
  fun l1 x1 x2 nx h r s Q  => o_iadd (by decide +kernel : pcode 13 44 = some (19, 0, 0, 0, 0)),
  fun l1 x1 nx h r s Q  => o_bipush (by decide +kernel : pcode 13 45 = some (2, 0, 0, 0, 10)),
  fun l1 x1 x2 nx h r s Q  => o_mmin (by decide +kernel : pcode 13 47 = some (93, 35, 1123, 0, 0)) (Nat.le_of_ble_eq_true rfl),
  fun l1 x1 nx h r s Q  => o_putI (by decide +kernel : pcode 13 50 = some (58, 338, 1, 0, 21)) (by decide) (by decide +kernel),
  fun l1 nx h r s Q  => o_vret (by decide +kernel : pcode 13 53 = some (90, 0, 0, 0, 0))⟩
set_option maxHeartbeats 4000000 in
set_option maxRecDepth 10000 in
theorem st_X1_takeBack :
  (∀ (l1 : Int) (nx : Nat) (h r : PF) (s : Int → Int) (Q : PO → PY → Nat → PC → Prop), (Wp 14 0 [some (pR 21), some (pR l1)] [] LY nx (h, r, s) Q ↔ Wp 14 1 [some (pR 21), some (pR l1)] [pR 21] LY nx (h, r, s) Q)) ∧
  (∀ (l1 : Int) (nx : Nat) (h r : PF) (s : Int → Int) (Q : PO → PY → Nat → PC → Prop), (Wp 14 1 [some (pR 21), some (pR l1)] [pR 21] LY nx (h, r, s) Q ↔ Wp 14 4 [some (pR 21), some (pR l1)] [pI (h 21 0)] LY nx (h, r, s) Q)) ∧
  (∀ (l1 : Int) (x0 : Int) (nx : Nat) (h r : PF) (s : Int → Int) (Q : PO → PY → Nat → PC → Prop), (Wp 14 4 [some (pR 21), some (pR l1)] [pI x0] LY nx (h, r, s) Q ↔ (if x0 ≠ 0 then Wp 14 9 [some (pR 21), some (pR l1)] [] LY nx (h, r, s) Q else Wp 14 7 [some (pR 21), some (pR l1)] [] LY nx (h, r, s) Q))) ∧
  (∀ (l1 : Int) (nx : Nat) (h r : PF) (s : Int → Int) (Q : PO → PY → Nat → PC → Prop), (Wp 14 7 [some (pR 21), some (pR l1)] [] LY nx (h, r, s) Q ↔ Wp 14 8 [some (pR 21), some (pR l1)] [pI (-1)] LY nx (h, r, s) Q)) ∧
  (∀ (l1 : Int) (x0 : Int) (nx : Nat) (h r : PF) (s : Int → Int) (Q : PO → PY → Nat → PC → Prop), (Wp 14 8 [some (pR 21), some (pR l1)] [pI x0] LY nx (h, r, s) Q ↔ Q (Sum.inl (some (pI x0))) LY nx (h, r, s))) ∧
  (∀ (l1 : Int) (nx : Nat) (h r : PF) (s : Int → Int) (Q : PO → PY → Nat → PC → Prop), (Wp 14 9 [some (pR 21), some (pR l1)] [] LY nx (h, r, s) Q ↔ Wp 14 10 [some (pR 21), some (pR l1)] [pR 21] LY nx (h, r, s) Q)) ∧
  (∀ (l1 : Int) (nx : Nat) (h r : PF) (s : Int → Int) (Q : PO → PY → Nat → PC → Prop), (Wp 14 10 [some (pR 21), some (pR l1)] [pR 21] LY nx (h, r, s) Q ↔ Wp 14 11 [some (pR 21), some (pR l1)] [pR 21, pR 21] LY nx (h, r, s) Q)) ∧
  (∀ (l1 : Int) (nx : Nat) (h r : PF) (s : Int → Int) (Q : PO → PY → Nat → PC → Prop), (Wp 14 11 [some (pR 21), some (pR l1)] [pR 21, pR 21] LY nx (h, r, s) Q ↔ Wp 14 14 [some (pR 21), some (pR l1)] [pI (h 21 1), pR 21] LY nx (h, r, s) Q)) ∧
  (∀ (l1 : Int) (x1 : Int) (nx : Nat) (h r : PF) (s : Int → Int) (Q : PO → PY → Nat → PC → Prop), (Wp 14 14 [some (pR 21), some (pR l1)] [pI x1, pR 21] LY nx (h, r, s) Q ↔ (if x1 ≤ 0 then Wp 14 26 [some (pR 21), some (pR l1)] [pR 21] LY nx (h, r, s) Q else Wp 14 17 [some (pR 21), some (pR l1)] [pR 21] LY nx (h, r, s) Q))) ∧
  (∀ (l1 : Int) (nx : Nat) (h r : PF) (s : Int → Int) (Q : PO → PY → Nat → PC → Prop), (Wp 14 17 [some (pR 21), some (pR l1)] [pR 21] LY nx (h, r, s) Q ↔ Wp 14 18 [some (pR 21), some (pR l1)] [pR 21, pR 21] LY nx (h, r, s) Q)) ∧
  (∀ (l1 : Int) (nx : Nat) (h r : PF) (s : Int → Int) (Q : PO → PY → Nat → PC → Prop), (Wp 14 18 [some (pR 21), some (pR l1)] [pR 21, pR 21] LY nx (h, r, s) Q ↔ Wp 14 21 [some (pR 21), some (pR l1)] [pI (h 21 1), pR 21] LY nx (h, r, s) Q)) ∧
  (∀ (l1 : Int) (x1 : Int) (nx : Nat) (h r : PF) (s : Int → Int) (Q : PO → PY → Nat → PC → Prop), (Wp 14 21 [some (pR 21), some (pR l1)] [pI x1, pR 21] LY nx (h, r, s) Q ↔ Wp 14 22 [some (pR 21), some (pR l1)] [pI 1, pI x1, pR 21] LY nx (h, r, s) Q)) ∧
  (∀ (l1 : Int) (x1 : Int) (x2 : Int) (nx : Nat) (h r : PF) (s : Int → Int) (Q : PO → PY → Nat → PC → Prop), (Wp 14 22 [some (pR 21), some (pR l1)] [pI x2, pI x1, pR 21] LY nx (h, r, s) Q ↔ Wp 14 23 [some (pR 21), some (pR l1)] [pI (w32 (x1 - x2)), pR 21] LY nx (h, r, s) Q)) ∧
  (∀ (l1 : Int) (x1 : Int) (nx : Nat) (h r : PF) (s : Int → Int) (Q : PO → PY → Nat → PC → Prop), (Wp 14 23 [some (pR 21), some (pR l1)] [pI x1, pR 21] LY nx (h, r, s) Q ↔ Wp 14 28 [some (pR 21), some (pR l1)] [pI x1, pR 21] LY nx (h, r, s) Q)) ∧
  (∀ (l1 : Int) (nx : Nat) (h r : PF) (s : Int → Int) (Q : PO → PY → Nat → PC → Prop), (Wp 14 26 [some (pR 21), some (pR l1)] [pR 21] LY nx (h, r, s) Q ↔ Wp 14 28 [some (pR 21), some (pR l1)] [pI 9, pR 21] LY nx (h, r, s) Q)) ∧
  (∀ (l1 : Int) (x1 : Int) (nx : Nat) (h r : PF) (s : Int → Int) (Q : PO → PY → Nat → PC → Prop), (Wp 14 28 [some (pR 21), some (pR l1)] [pI x1, pR 21] LY nx (h, r, s) Q ↔ Wp 14 31 [some (pR 21), some (pR l1)] [] LY nx (fup h 21 1 x1, r, s) Q)) ∧
  (∀ (l1 : Int) (nx : Nat) (h r : PF) (s : Int → Int) (Q : PO → PY → Nat → PC → Prop), (Wp 14 31 [some (pR 21), some (pR l1)] [] LY nx (h, r, s) Q ↔ Wp 14 32 [some (pR 21), some (pR l1)] [pR 21] LY nx (h, r, s) Q)) ∧
  (∀ (l1 : Int) (nx : Nat) (h r : PF) (s : Int → Int) (Q : PO → PY → Nat → PC → Prop), (Wp 14 32 [some (pR 21), some (pR l1)] [pR 21] LY nx (h, r, s) Q ↔ Wp 14 33 [some (pR 21), some (pR l1)] [pR 21, pR 21] LY nx (h, r, s) Q)) ∧
  (∀ (l1 : Int) (nx : Nat) (h r : PF) (s : Int → Int) (Q : PO → PY → Nat → PC → Prop), (Wp 14 33 [some (pR 21), some (pR l1)] [pR 21, pR 21] LY nx (h, r, s) Q ↔ Wp 14 36 [some (pR 21), some (pR l1)] [pI (h 21 0), pR 21] LY nx (h, r, s) Q)) ∧
  (∀ (l1 : Int) (x1 : Int) (nx : Nat) (h r : PF) (s : Int → Int) (Q : PO → PY → Nat → PC → Prop), (Wp 14 36 [some (pR 21), some (pR l1)] [pI x1, pR 21] LY nx (h, r, s) Q ↔ Wp 14 37 [some (pR 21), some (pR l1)] [pI 1, pI x1, pR 21] LY nx (h, r, s) Q)) ∧
  (∀ (l1 : Int) (x1 : Int) (x2 : Int) (nx : Nat) (h r : PF) (s : Int → Int) (Q : PO → PY → Nat → PC → Prop), (Wp 14 37 [some (pR 21), some (pR l1)] [pI x2, pI x1, pR 21] LY nx (h, r, s) Q ↔ Wp 14 38 [some (pR 21), some (pR l1)] [pI (w32 (x1 - x2)), pR 21] LY nx (h, r, s) Q)) ∧
  (∀ (l1 : Int) (x1 : Int) (nx : Nat) (h r : PF) (s : Int → Int) (Q : PO → PY → Nat → PC → Prop), (Wp 14 38 [some (pR 21), some (pR l1)] [pI x1, pR 21] LY nx (h, r, s) Q ↔ Wp 14 41 [some (pR 21), some (pR l1)] [] LY nx (fup h 21 0 x1, r, s) Q)) ∧
  (∀ (l1 : Int) (nx : Nat) (h r : PF) (s : Int → Int) (Q : PO → PY → Nat → PC → Prop), (Wp 14 41 [some (pR 21), some (pR l1)] [] LY nx (h, r, s) Q ↔ Wp 14 42 [some (pR 21), some (pR l1)] [pR l1] LY nx (h, r, s) Q)) ∧
  (∀ (l1 : Int) (x0 : Int) (nx : Nat) (h r : PF) (s : Int → Int) (Q : PO → PY → Nat → PC → Prop), (Wp 14 42 [some (pR 21), some (pR l1)] [pR x0] LY nx (h, r, s) Q ↔ Wp 14 43 [some (pR 21), some (pR l1)] [pR 21, pR x0] LY nx (h, r, s) Q)) ∧
  (∀ (l1 : Int) (x0 : Int) (nx : Nat) (h r : PF) (s : Int → Int) (Q : PO → PY → Nat → PC → Prop), WFr r → (Wp 14 43 [some (pR 21), some (pR l1)] [pR 21, pR x0] LY nx (h, r, s) Q ↔ Wp 14 46 [some (pR 21), some (pR l1)] [pR 22, pR x0] LY nx (h, r, s) Q)) ∧
  (∀ (l1 : Int) (x0 : Int) (nx : Nat) (h r : PF) (s : Int → Int) (Q : PO → PY → Nat → PC → Prop), (Wp 14 46 [some (pR 21), some (pR l1)] [pR 22, pR x0] LY nx (h, r, s) Q ↔ Wp 14 47 [some (pR 21), some (pR l1)] [pR 21, pR 22, pR x0] LY nx (h, r, s) Q)) ∧
  (∀ (l1 : Int) (x0 : Int) (nx : Nat) (h r : PF) (s : Int → Int) (Q : PO → PY → Nat → PC → Prop), (Wp 14 47 [some (pR 21), some (pR l1)] [pR 21, pR 22, pR x0] LY nx (h, r, s) Q ↔ Wp 14 50 [some (pR 21), some (pR l1)] [pI (h 21 1), pR 22, pR x0] LY nx (h, r, s) Q)) ∧
  (∀ (l1 : Int) (x0 : Int) (x2 : Int) (nx : Nat) (h r : PF) (s : Int → Int) (Q : PO → PY → Nat → PC → Prop), 0 ≤ x2 → x2 < 10 → 0 < r 22 x2 → (Wp 14 50 [some (pR 21), some (pR l1)] [pI x2, pR 22, pR x0] LY nx (h, r, s) Q ↔ Wp 14 51 [some (pR 21), some (pR l1)] [pR (r 22 x2), pR x0] LY nx (h, r, s) Q)) ∧
  (∀ (l1 : Int) (x0 : Int) (x1 : Int) (nx : Nat) (h r : PF) (s : Int → Int) (Q : PO → PY → Nat → PC → Prop), 0 < x0 → kd LY x0 = (0, 5) → (Wp 14 51 [some (pR 21), some (pR l1)] [pR x1, pR x0] LY nx (h, r, s) Q ↔ Wp 55 0 [some (pR x0), some (pR x1)] [] LY nx (h, r, s) (Kc 14 51 [some (pR 21), some (pR l1)] 54 [] Q))) ∧
  (∀ (l1 : Int) (nx : Nat) (h r : PF) (s : Int → Int) (Q : PO → PY → Nat → PC → Prop), (Wp 14 54 [some (pR 21), some (pR l1)] [] LY nx (h, r, s) Q ↔ Wp 14 55 [some (pR 21), some (pR l1)] [pR 21] LY nx (h, r, s) Q)) ∧
  (∀ (l1 : Int) (nx : Nat) (h r : PF) (s : Int → Int) (Q : PO → PY → Nat → PC → Prop), (Wp 14 55 [some (pR 21), some (pR l1)] [pR 21] LY nx (h, r, s) Q ↔ Wp 14 58 [some (pR 21), some (pR l1)] [pI (h 21 0)] LY nx (h, r, s) Q)) ∧
  (∀ (l1 : Int) (x0 : Int) (nx : Nat) (h r : PF) (s : Int → Int) (Q : PO → PY → Nat → PC → Prop), (Wp 14 58 [some (pR 21), some (pR l1)] [pI x0] LY nx (h, r, s) Q ↔ Q (Sum.inl (some (pI x0))) LY nx (h, r, s))) :=
  ⟨fun l1 nx h r s Q  => o_aload_n (by decide +kernel : pcode 14 0 = some (10, 0, 0, 0, 0)) rfl,
  fun l1 nx h r s Q  => o_getI (by decide +kernel : pcode 14 1 = some (55, 338, 1, 0, 21)) (by decide) (by decide +kernel),
  fun l1 x0 nx h r s Q  => o_if_ne (by decide +kernel : pcode 14 4 = some (42, 9, 0, 0, 5)),
  fun l1 nx h r s Q  => o_iconst (by decide +kernel : pcode 14 7 = some (1, 0, 0, 0, -1)),
  fun l1 x0 nx h r s Q  => o_iret (by decide +kernel : pcode 14 8 = some (87, 0, 0, 0, 0)),
  fun l1 nx h r s Q  => o_aload_n (by decide +kernel : pcode 14 9 = some (10, 0, 0, 0, 0)) rfl,
  fun l1 nx h r s Q  => o_aload_n (by decide +kernel : pcode 14 10 = some (10, 0, 0, 0, 0)) rfl,
  fun l1 nx h r s Q  => o_getI (by decide +kernel : pcode 14 11 = some (55, 340, 1, 1, 28)) (by decide) (by decide +kernel),
  fun l1 x1 nx h r s Q  => o_if_le (by decide +kernel : pcode 14 14 = some (46, 26, 0, 0, 12)),
  fun l1 nx h r s Q  => o_aload_n (by decide +kernel : pcode 14 17 = some (10, 0, 0, 0, 0)) rfl,
  fun l1 nx h r s Q  => o_getI (by decide +kernel : pcode 14 18 = some (55, 340, 1, 1, 28)) (by decide) (by decide +kernel),
  fun l1 x1 nx h r s Q  => o_iconst (by decide +kernel : pcode 14 21 = some (1, 0, 0, 0, 1)),
  fun l1 x1 x2 nx h r s Q  => o_isub (by decide +kernel : pcode 14 22 = some (20, 0, 0, 0, 0)),
  fun l1 x1 nx h r s Q  => o_goto (by decide +kernel : pcode 14 23 = some (53, 28, 0, 0, 5)),
  fun l1 nx h r s Q  => o_bipush (by decide +kernel : pcode 14 26 = some (2, 0, 0, 0, 9)),
  fun l1 x1 nx h r s Q  => o_putI (by decide +kernel : pcode 14 28 = some (58, 340, 1, 1, 28)) (by decide) (by decide +kernel),
  fun l1 nx h r s Q  => o_aload_n (by decide +kernel : pcode 14 31 = some (10, 0, 0, 0, 0)) rfl,
  fun l1 nx h r s Q  => o_dup (by decide +kernel : pcode 14 32 = some (38, 0, 0, 0, 0)) rfl,
  fun l1 nx h r s Q  => o_getI (by decide +kernel : pcode 14 33 = some (55, 338, 1, 0, 21)) (by decide) (by decide +kernel),
  fun l1 x1 nx h r s Q  => o_iconst (by decide +kernel : pcode 14 36 = some (1, 0, 0, 0, 1)),
  fun l1 x1 x2 nx h r s Q  => o_isub (by decide +kernel : pcode 14 37 = some (20, 0, 0, 0, 0)),
  fun l1 x1 nx h r s Q  => o_putI (by decide +kernel : pcode 14 38 = some (58, 338, 1, 0, 21)) (by decide) (by decide +kernel),
  fun l1 nx h r s Q  => o_aload_n (by decide +kernel : pcode 14 41 = some (10, 1, 0, 0, 0)) rfl,
  fun l1 x0 nx h r s Q  => o_aload_n (by decide +kernel : pcode 14 42 = some (10, 0, 0, 0, 0)) rfl,
  fun l1 x0 nx h r s Q hw => o_getR (h := (h, r, s)) (by decide +kernel : pcode 14 43 = some (57, 342, 1, 3, 11)) (by decide) (by decide +kernel) (hw _ (List.mem_of_getElem? (i := 20) rfl)) (by decide),
  fun l1 x0 nx h r s Q  => o_aload_n (by decide +kernel : pcode 14 46 = some (10, 0, 0, 0, 0)) rfl,
  fun l1 x0 nx h r s Q  => o_getI (by decide +kernel : pcode 14 47 = some (55, 340, 1, 1, 28)) (by decide) (by decide +kernel),
  fun l1 x0 x2 nx h r s Q hi hn h9 => o_aald (h := (h, r, s)) (n := 10) (by decide +kernel : pcode 14 50 = some (71, 0, 0, 0, 0)) (by decide) (by decide +kernel) hi hn rfl h9,
  fun l1 x0 x1 nx h r s Q h0 hk => o_ivV (s1 := [pR x1]) (s2 := []) (o := x0) (by decide +kernel : pcode 14 51 = some (78, 55, 2, 561, 31)) rfl (Nat.le_of_ble_eq_true rfl) h0 hk rfl rfl rfl,
  fun l1 nx h r s Q  => o_aload_n (by decide +kernel : pcode 14 54 = some (10, 0, 0, 0, 0)) rfl,
  fun l1 nx h r s Q  => o_getI (by decide +kernel : pcode 14 55 = some (55, 338, 1, 0, 21)) (by decide) (by decide +kernel),
  fun l1 x0 nx h r s Q  => o_iret (by decide +kernel : pcode 14 58 = some (87, 0, 0, 0, 0))⟩
set_option maxHeartbeats 4000000 in
set_option maxRecDepth 10000 in
theorem st_X1_isSaved :
  (∀ (l1 : Int) (nx : Nat) (h r : PF) (s : Int → Int) (Q : PO → PY → Nat → PC → Prop), (Wp 15 0 [some (pR 21), some (pI l1)] [] LY nx (h, r, s) Q ↔ Wp 15 1 [some (pR 21), some (pI l1)] [pR 21] LY nx (h, r, s) Q)) ∧
  (∀ (l1 : Int) (nx : Nat) (h r : PF) (s : Int → Int) (Q : PO → PY → Nat → PC → Prop), (Wp 15 1 [some (pR 21), some (pI l1)] [pR 21] LY nx (h, r, s) Q ↔ Wp 15 4 [some (pR 21), some (pI l1)] [pI (h 21 2)] LY nx (h, r, s) Q)) ∧
  (∀ (l1 : Int) (x0 : Int) (nx : Nat) (h r : PF) (s : Int → Int) (Q : PO → PY → Nat → PC → Prop), (Wp 15 4 [some (pR 21), some (pI l1)] [pI x0] LY nx (h, r, s) Q ↔ Wp 15 5 [some (pR 21), some (pI l1)] [pI l1, pI x0] LY nx (h, r, s) Q)) ∧
  (∀ (l1 : Int) (x0 : Int) (x1 : Int) (nx : Nat) (h r : PF) (s : Int → Int) (Q : PO → PY → Nat → PC → Prop), (Wp 15 5 [some (pR 21), some (pI l1)] [pI x1, pI x0] LY nx (h, r, s) Q ↔ Wp 15 6 [some (pR 21), some (pI l1)] [pI (pshr x0 x1)] LY nx (h, r, s) Q)) ∧
  (∀ (l1 : Int) (x0 : Int) (nx : Nat) (h r : PF) (s : Int → Int) (Q : PO → PY → Nat → PC → Prop), (Wp 15 6 [some (pR 21), some (pI l1)] [pI x0] LY nx (h, r, s) Q ↔ Wp 15 7 [some (pR 21), some (pI l1)] [pI 1, pI x0] LY nx (h, r, s) Q)) ∧
  (∀ (l1 : Int) (x0 : Int) (x1 : Int) (nx : Nat) (h r : PF) (s : Int → Int) (Q : PO → PY → Nat → PC → Prop), (Wp 15 7 [some (pR 21), some (pI l1)] [pI x1, pI x0] LY nx (h, r, s) Q ↔ Wp 15 8 [some (pR 21), some (pI l1)] [pI (pand x0 x1)] LY nx (h, r, s) Q)) ∧
  (∀ (l1 : Int) (x0 : Int) (nx : Nat) (h r : PF) (s : Int → Int) (Q : PO → PY → Nat → PC → Prop), (Wp 15 8 [some (pR 21), some (pI l1)] [pI x0] LY nx (h, r, s) Q ↔ Wp 15 9 [some (pR 21), some (pI l1)] [pI 1, pI x0] LY nx (h, r, s) Q)) ∧
  (∀ (l1 : Int) (x0 : Int) (x1 : Int) (nx : Nat) (h r : PF) (s : Int → Int) (Q : PO → PY → Nat → PC → Prop), (Wp 15 9 [some (pR 21), some (pI l1)] [pI x1, pI x0] LY nx (h, r, s) Q ↔ (if x0 ≠ x1 then Wp 15 16 [some (pR 21), some (pI l1)] [] LY nx (h, r, s) Q else Wp 15 12 [some (pR 21), some (pI l1)] [] LY nx (h, r, s) Q))) ∧
  (∀ (l1 : Int) (nx : Nat) (h r : PF) (s : Int → Int) (Q : PO → PY → Nat → PC → Prop), (Wp 15 12 [some (pR 21), some (pI l1)] [] LY nx (h, r, s) Q ↔ Wp 15 13 [some (pR 21), some (pI l1)] [pI 1] LY nx (h, r, s) Q)) ∧
  (∀ (l1 : Int) (x0 : Int) (nx : Nat) (h r : PF) (s : Int → Int) (Q : PO → PY → Nat → PC → Prop), (Wp 15 13 [some (pR 21), some (pI l1)] [pI x0] LY nx (h, r, s) Q ↔ Wp 15 17 [some (pR 21), some (pI l1)] [pI x0] LY nx (h, r, s) Q)) ∧
  (∀ (l1 : Int) (nx : Nat) (h r : PF) (s : Int → Int) (Q : PO → PY → Nat → PC → Prop), (Wp 15 16 [some (pR 21), some (pI l1)] [] LY nx (h, r, s) Q ↔ Wp 15 17 [some (pR 21), some (pI l1)] [pI 0] LY nx (h, r, s) Q)) ∧
  (∀ (l1 : Int) (x0 : Int) (nx : Nat) (h r : PF) (s : Int → Int) (Q : PO → PY → Nat → PC → Prop), x0 = 0 ∨ x0 = 1 → (Wp 15 17 [some (pR 21), some (pI l1)] [pI x0] LY nx (h, r, s) Q ↔ Q (Sum.inl (some (pI x0))) LY nx (h, r, s))) :=
  ⟨fun l1 nx h r s Q  => o_aload_n (by decide +kernel : pcode 15 0 = some (10, 0, 0, 0, 0)) rfl,
  fun l1 nx h r s Q  => o_getI (by decide +kernel : pcode 15 1 = some (55, 341, 1, 2, 25)) (by decide) (by decide +kernel),
  fun l1 x0 nx h r s Q  => o_iload_n (by decide +kernel : pcode 15 4 = some (6, 1, 0, 0, 0)) rfl,
  fun l1 x0 x1 nx h r s Q  => o_ishr (by decide +kernel : pcode 15 5 = some (27, 0, 0, 0, 0)),
  fun l1 x0 nx h r s Q  => o_iconst (by decide +kernel : pcode 15 6 = some (1, 0, 0, 0, 1)),
  fun l1 x0 x1 nx h r s Q  => o_iand (by decide +kernel : pcode 15 7 = some (22, 0, 0, 0, 0)),
  fun l1 x0 nx h r s Q  => o_iconst (by decide +kernel : pcode 15 8 = some (1, 0, 0, 0, 1)),
  fun l1 x0 x1 nx h r s Q  => o_icmp_ne (by decide +kernel : pcode 15 9 = some (48, 16, 0, 0, 7)),
  fun l1 nx h r s Q  => o_iconst (by decide +kernel : pcode 15 12 = some (1, 0, 0, 0, 1)),
  fun l1 x0 nx h r s Q  => o_goto (by decide +kernel : pcode 15 13 = some (53, 17, 0, 0, 4)),
  fun l1 nx h r s Q  => o_iconst (by decide +kernel : pcode 15 16 = some (1, 0, 0, 0, 0)),
  fun l1 x0 nx h r s Q hz => o_zret (by decide +kernel : pcode 15 17 = some (88, 0, 0, 0, 0)) hz⟩
set_option maxHeartbeats 4000000 in
set_option maxRecDepth 10000 in
theorem st_X1_save :
  (∀ (l1 : Int) (l2 : Int) (nx : Nat) (h r : PF) (s : Int → Int) (Q : PO → PY → Nat → PC → Prop), (Wp 16 0 [some (pR 21), some (pI l1), some (pR l2), none] [] LY nx (h, r, s) Q ↔ Wp 16 1 [some (pR 21), some (pI l1), some (pR l2), none] [pR 21] LY nx (h, r, s) Q)) ∧
  (∀ (l1 : Int) (l2 : Int) (nx : Nat) (h r : PF) (s : Int → Int) (Q : PO → PY → Nat → PC → Prop), (Wp 16 1 [some (pR 21), some (pI l1), some (pR l2), none] [pR 21] LY nx (h, r, s) Q ↔ Wp 16 2 [some (pR 21), some (pI l1), some (pR l2), none] [pI l1, pR 21] LY nx (h, r, s) Q)) ∧
  (∀ (l1 : Int) (l2 : Int) (x1 : Int) (nx : Nat) (h r : PF) (s : Int → Int) (Q : PO → PY → Nat → PC → Prop), (Wp 16 2 [some (pR 21), some (pI l1), some (pR l2), none] [pI x1, pR 21] LY nx (h, r, s) Q ↔ Wp 15 0 [some (pR 21), some (pI x1)] [] LY nx (h, r, s) (Kc 16 2 [some (pR 21), some (pI l1), some (pR l2), none] 5 [] Q))) ∧
  (∀ (l1 : Int) (l2 : Int) (x0 : Int) (nx : Nat) (h r : PF) (s : Int → Int) (Q : PO → PY → Nat → PC → Prop), (Wp 16 5 [some (pR 21), some (pI l1), some (pR l2), none] [pI x0] LY nx (h, r, s) Q ↔ Wp 16 6 [some (pR 21), some (pI l1), some (pR l2), some (pI x0)] [] LY nx (h, r, s) Q)) ∧
  (∀ (l1 : Int) (l2 : Int) (l3 : Int) (nx : Nat) (h r : PF) (s : Int → Int) (Q : PO → PY → Nat → PC → Prop), (Wp 16 6 [some (pR 21), some (pI l1), some (pR l2), some (pI l3)] [] LY nx (h, r, s) Q ↔ Wp 16 7 [some (pR 21), some (pI l1), some (pR l2), some (pI l3)] [pR 21] LY nx (h, r, s) Q)) ∧
  (∀ (l1 : Int) (l2 : Int) (l3 : Int) (nx : Nat) (h r : PF) (s : Int → Int) (Q : PO → PY → Nat → PC → Prop), WFr r → (Wp 16 7 [some (pR 21), some (pI l1), some (pR l2), some (pI l3)] [pR 21] LY nx (h, r, s) Q ↔ Wp 16 10 [some (pR 21), some (pI l1), some (pR l2), some (pI l3)] [pR 23] LY nx (h, r, s) Q)) ∧
  (∀ (l1 : Int) (l2 : Int) (l3 : Int) (nx : Nat) (h r : PF) (s : Int → Int) (Q : PO → PY → Nat → PC → Prop), (Wp 16 10 [some (pR 21), some (pI l1), some (pR l2), some (pI l3)] [pR 23] LY nx (h, r, s) Q ↔ Wp 16 11 [some (pR 21), some (pI l1), some (pR l2), some (pI l3)] [pI l1, pR 23] LY nx (h, r, s) Q)) ∧
  (∀ (l1 : Int) (l2 : Int) (l3 : Int) (x1 : Int) (nx : Nat) (h r : PF) (s : Int → Int) (Q : PO → PY → Nat → PC → Prop), 0 ≤ x1 → x1 < 2 → 0 < r 23 x1 → (Wp 16 11 [some (pR 21), some (pI l1), some (pR l2), some (pI l3)] [pI x1, pR 23] LY nx (h, r, s) Q ↔ Wp 16 12 [some (pR 21), some (pI l1), some (pR l2), some (pI l3)] [pR (r 23 x1)] LY nx (h, r, s) Q)) ∧
  (∀ (l1 : Int) (l2 : Int) (l3 : Int) (x0 : Int) (nx : Nat) (h r : PF) (s : Int → Int) (Q : PO → PY → Nat → PC → Prop), (Wp 16 12 [some (pR 21), some (pI l1), some (pR l2), some (pI l3)] [pR x0] LY nx (h, r, s) Q ↔ Wp 16 13 [some (pR 21), some (pI l1), some (pR l2), some (pI l3)] [pR l2, pR x0] LY nx (h, r, s) Q)) ∧
  (∀ (l1 : Int) (l2 : Int) (l3 : Int) (x0 : Int) (x1 : Int) (nx : Nat) (h r : PF) (s : Int → Int) (Q : PO → PY → Nat → PC → Prop), 0 < x0 → kd LY x0 = (0, 5) → (Wp 16 13 [some (pR 21), some (pI l1), some (pR l2), some (pI l3)] [pR x1, pR x0] LY nx (h, r, s) Q ↔ Wp 55 0 [some (pR x0), some (pR x1)] [] LY nx (h, r, s) (Kc 16 13 [some (pR 21), some (pI l1), some (pR l2), some (pI l3)] 16 [] Q))) ∧
  (∀ (l1 : Int) (l2 : Int) (l3 : Int) (nx : Nat) (h r : PF) (s : Int → Int) (Q : PO → PY → Nat → PC → Prop), (Wp 16 16 [some (pR 21), some (pI l1), some (pR l2), some (pI l3)] [] LY nx (h, r, s) Q ↔ Wp 16 17 [some (pR 21), some (pI l1), some (pR l2), some (pI l3)] [pR 21] LY nx (h, r, s) Q)) ∧
  (∀ (l1 : Int) (l2 : Int) (l3 : Int) (nx : Nat) (h r : PF) (s : Int → Int) (Q : PO → PY → Nat → PC → Prop), (Wp 16 17 [some (pR 21), some (pI l1), some (pR l2), some (pI l3)] [pR 21] LY nx (h, r, s) Q ↔ Wp 16 18 [some (pR 21), some (pI l1), some (pR l2), some (pI l3)] [pR 21, pR 21] LY nx (h, r, s) Q)) ∧
  (∀ (l1 : Int) (l2 : Int) (l3 : Int) (nx : Nat) (h r : PF) (s : Int → Int) (Q : PO → PY → Nat → PC → Prop), (Wp 16 18 [some (pR 21), some (pI l1), some (pR l2), some (pI l3)] [pR 21, pR 21] LY nx (h, r, s) Q ↔ Wp 16 21 [some (pR 21), some (pI l1), some (pR l2), some (pI l3)] [pI (h 21 2), pR 21] LY nx (h, r, s) Q)) ∧
  (∀ (l1 : Int) (l2 : Int) (l3 : Int) (x1 : Int) (nx : Nat) (h r : PF) (s : Int → Int) (Q : PO → PY → Nat → PC → Prop), (Wp 16 21 [some (pR 21), some (pI l1), some (pR l2), some (pI l3)] [pI x1, pR 21] LY nx (h, r, s) Q ↔ Wp 16 22 [some (pR 21), some (pI l1), some (pR l2), some (pI l3)] [pI 1, pI x1, pR 21] LY nx (h, r, s) Q)) ∧
  (∀ (l1 : Int) (l2 : Int) (l3 : Int) (x1 : Int) (x2 : Int) (nx : Nat) (h r : PF) (s : Int → Int) (Q : PO → PY → Nat → PC → Prop), (Wp 16 22 [some (pR 21), some (pI l1), some (pR l2), some (pI l3)] [pI x2, pI x1, pR 21] LY nx (h, r, s) Q ↔ Wp 16 23 [some (pR 21), some (pI l1), some (pR l2), some (pI l3)] [pI l1, pI x2, pI x1, pR 21] LY nx (h, r, s) Q)) ∧
  (∀ (l1 : Int) (l2 : Int) (l3 : Int) (x1 : Int) (x2 : Int) (x3 : Int) (nx : Nat) (h r : PF) (s : Int → Int) (Q : PO → PY → Nat → PC → Prop), (Wp 16 23 [some (pR 21), some (pI l1), some (pR l2), some (pI l3)] [pI x3, pI x2, pI x1, pR 21] LY nx (h, r, s) Q ↔ Wp 16 24 [some (pR 21), some (pI l1), some (pR l2), some (pI l3)] [pI (pshl x2 x3), pI x1, pR 21] LY nx (h, r, s) Q)) ∧
  (∀ (l1 : Int) (l2 : Int) (l3 : Int) (x1 : Int) (x2 : Int) (nx : Nat) (h r : PF) (s : Int → Int) (Q : PO → PY → Nat → PC → Prop), (Wp 16 24 [some (pR 21), some (pI l1), some (pR l2), some (pI l3)] [pI x2, pI x1, pR 21] LY nx (h, r, s) Q ↔ Wp 16 25 [some (pR 21), some (pI l1), some (pR l2), some (pI l3)] [pI (por x1 x2), pR 21] LY nx (h, r, s) Q)) ∧
  (∀ (l1 : Int) (l2 : Int) (l3 : Int) (x1 : Int) (nx : Nat) (h r : PF) (s : Int → Int) (Q : PO → PY → Nat → PC → Prop), (Wp 16 25 [some (pR 21), some (pI l1), some (pR l2), some (pI l3)] [pI x1, pR 21] LY nx (h, r, s) Q ↔ Wp 16 28 [some (pR 21), some (pI l1), some (pR l2), some (pI l3)] [] LY nx (fup h 21 2 x1, r, s) Q)) ∧
  (∀ (l1 : Int) (l2 : Int) (l3 : Int) (nx : Nat) (h r : PF) (s : Int → Int) (Q : PO → PY → Nat → PC → Prop), (Wp 16 28 [some (pR 21), some (pI l1), some (pR l2), some (pI l3)] [] LY nx (h, r, s) Q ↔ Wp 16 29 [some (pR 21), some (pI l1), some (pR l2), some (pI l3)] [pI l3] LY nx (h, r, s) Q)) ∧
  (∀ (l1 : Int) (l2 : Int) (l3 : Int) (x0 : Int) (nx : Nat) (h r : PF) (s : Int → Int) (Q : PO → PY → Nat → PC → Prop), x0 = 0 ∨ x0 = 1 → (Wp 16 29 [some (pR 21), some (pI l1), some (pR l2), some (pI l3)] [pI x0] LY nx (h, r, s) Q ↔ Q (Sum.inl (some (pI x0))) LY nx (h, r, s))) :=
  ⟨fun l1 l2 nx h r s Q  => o_aload_n (by decide +kernel : pcode 16 0 = some (10, 0, 0, 0, 0)) rfl,
  fun l1 l2 nx h r s Q  => o_iload_n (by decide +kernel : pcode 16 1 = some (6, 1, 0, 0, 0)) rfl,
  fun l1 l2 x1 nx h r s Q  => o_ivV (s1 := [pI x1]) (s2 := []) (o := 21) (by decide +kernel : pcode 16 2 = some (78, 15, 2, 1171, 41)) rfl (Nat.le_of_ble_eq_true rfl) (by decide) (by decide +kernel) rfl rfl rfl,
  fun l1 l2 x0 nx h r s Q  => o_istore_n (by decide +kernel : pcode 16 5 = some (12, 3, 0, 0, 0)) rfl,
  fun l1 l2 l3 nx h r s Q  => o_aload_n (by decide +kernel : pcode 16 6 = some (10, 0, 0, 0, 0)) rfl,
  fun l1 l2 l3 nx h r s Q hw => o_getR (h := (h, r, s)) (by decide +kernel : pcode 16 7 = some (57, 343, 1, 4, 17)) (by decide) (by decide +kernel) (hw _ (List.mem_of_getElem? (i := 21) rfl)) (by decide),
  fun l1 l2 l3 nx h r s Q  => o_iload_n (by decide +kernel : pcode 16 10 = some (6, 1, 0, 0, 0)) rfl,
  fun l1 l2 l3 x1 nx h r s Q hi hn h9 => o_aald (h := (h, r, s)) (n := 2) (by decide +kernel : pcode 16 11 = some (71, 0, 0, 0, 0)) (by decide) (by decide +kernel) hi hn rfl h9,
  fun l1 l2 l3 x0 nx h r s Q  => o_aload_n (by decide +kernel : pcode 16 12 = some (10, 2, 0, 0, 0)) rfl,
  fun l1 l2 l3 x0 x1 nx h r s Q h0 hk => o_ivV (s1 := [pR x1]) (s2 := []) (o := x0) (by decide +kernel : pcode 16 13 = some (78, 55, 2, 561, 31)) rfl (Nat.le_of_ble_eq_true rfl) h0 hk rfl rfl rfl,
  fun l1 l2 l3 nx h r s Q  => o_aload_n (by decide +kernel : pcode 16 16 = some (10, 0, 0, 0, 0)) rfl,
  fun l1 l2 l3 nx h r s Q  => o_dup (by decide +kernel : pcode 16 17 = some (38, 0, 0, 0, 0)) rfl,
  fun l1 l2 l3 nx h r s Q  => o_getI (by decide +kernel : pcode 16 18 = some (55, 341, 1, 2, 25)) (by decide) (by decide +kernel),
  fun l1 l2 l3 x1 nx h r s Q  => o_iconst (by decide +kernel : pcode 16 21 = some (1, 0, 0, 0, 1)),
  fun l1 l2 l3 x1 x2 nx h r s Q  => o_iload_n (by decide +kernel : pcode 16 22 = some (6, 1, 0, 0, 0)) rfl,
  fun l1 l2 l3 x1 x2 x3 nx h r s Q  => o_ishl (by decide +kernel : pcode 16 23 = some (26, 0, 0, 0, 0)),
  fun l1 l2 l3 x1 x2 nx h r s Q  => o_ior (by decide +kernel : pcode 16 24 = some (23, 0, 0, 0, 0)),
  fun l1 l2 l3 x1 nx h r s Q  => o_putI (by decide +kernel : pcode 16 25 = some (58, 341, 1, 2, 25)) (by decide) (by decide +kernel),
  fun l1 l2 l3 nx h r s Q  => o_iload_n (by decide +kernel : pcode 16 28 = some (6, 3, 0, 0, 0)) rfl,
  fun l1 l2 l3 x0 nx h r s Q hz => o_zret (by decide +kernel : pcode 16 29 = some (88, 0, 0, 0, 0)) hz⟩
