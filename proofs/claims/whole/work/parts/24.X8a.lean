set_option maxHeartbeats 4000000 in
set_option maxRecDepth 10000 in
theorem st_X8_thrown :
  (∀  (nx : Nat) (h r : PF) (s : Int → Int) (Q : PO → PY → Nat → PC → Prop), (Wp 126 0 [some (pR 178)] [] LY nx (h, r, s) Q ↔ Wp 126 1 [some (pR 178)] [pR 178] LY nx (h, r, s) Q)) ∧
  (∀  (nx : Nat) (h r : PF) (s : Int → Int) (Q : PO → PY → Nat → PC → Prop), (Wp 126 1 [some (pR 178)] [pR 178] LY nx (h, r, s) Q ↔ Wp 126 4 [some (pR 178)] [pI (h 178 0)] LY nx (h, r, s) Q)) ∧
  (∀ (x0 : Int) (nx : Nat) (h r : PF) (s : Int → Int) (Q : PO → PY → Nat → PC → Prop), (Wp 126 4 [some (pR 178)] [pI x0] LY nx (h, r, s) Q ↔ Q (Sum.inl (some (pI x0))) LY nx (h, r, s))) :=
  ⟨fun  nx h r s Q  => o_aload_n (by decide +kernel : pcode 126 0 = some (10, 0, 0, 0, 0)) rfl,
  fun  nx h r s Q  => o_getI (by decide +kernel : pcode 126 1 = some (55, 1217, 8, 0, 71)) (by decide) (by decide +kernel),
  fun x0 nx h r s Q  => o_iret (by decide +kernel : pcode 126 4 = some (87, 0, 0, 0, 0))⟩
set_option maxHeartbeats 4000000 in
set_option maxRecDepth 10000 in
theorem st_X8_within :
  (∀ (l0 : Int) (l1 : Int) (l2 : Int) (nx : Nat) (h r : PF) (s : Int → Int) (Q : PO → PY → Nat → PC → Prop), (Wp 127 0 [some (pI l0), some (pI l1), some (pI l2)] [] LY nx (h, r, s) Q ↔ Wp 127 1 [some (pI l0), some (pI l1), some (pI l2)] [pI l0] LY nx (h, r, s) Q)) ∧
  (∀ (l0 : Int) (l1 : Int) (l2 : Int) (x0 : Int) (nx : Nat) (h r : PF) (s : Int → Int) (Q : PO → PY → Nat → PC → Prop), (Wp 127 1 [some (pI l0), some (pI l1), some (pI l2)] [pI x0] LY nx (h, r, s) Q ↔ Wp 127 2 [some (pI l0), some (pI l1), some (pI l2)] [pI l1, pI x0] LY nx (h, r, s) Q)) ∧
  (∀ (l0 : Int) (l1 : Int) (l2 : Int) (x0 : Int) (x1 : Int) (nx : Nat) (h r : PF) (s : Int → Int) (Q : PO → PY → Nat → PC → Prop), (Wp 127 2 [some (pI l0), some (pI l1), some (pI l2)] [pI x1, pI x0] LY nx (h, r, s) Q ↔ (if x0 < x1 then Wp 127 14 [some (pI l0), some (pI l1), some (pI l2)] [] LY nx (h, r, s) Q else Wp 127 5 [some (pI l0), some (pI l1), some (pI l2)] [] LY nx (h, r, s) Q))) ∧
  (∀ (l0 : Int) (l1 : Int) (l2 : Int) (nx : Nat) (h r : PF) (s : Int → Int) (Q : PO → PY → Nat → PC → Prop), (Wp 127 5 [some (pI l0), some (pI l1), some (pI l2)] [] LY nx (h, r, s) Q ↔ Wp 127 6 [some (pI l0), some (pI l1), some (pI l2)] [pI l0] LY nx (h, r, s) Q)) ∧
  (∀ (l0 : Int) (l1 : Int) (l2 : Int) (x0 : Int) (nx : Nat) (h r : PF) (s : Int → Int) (Q : PO → PY → Nat → PC → Prop), (Wp 127 6 [some (pI l0), some (pI l1), some (pI l2)] [pI x0] LY nx (h, r, s) Q ↔ Wp 127 7 [some (pI l0), some (pI l1), some (pI l2)] [pI l2, pI x0] LY nx (h, r, s) Q)) ∧
  (∀ (l0 : Int) (l1 : Int) (l2 : Int) (x0 : Int) (x1 : Int) (nx : Nat) (h r : PF) (s : Int → Int) (Q : PO → PY → Nat → PC → Prop), (Wp 127 7 [some (pI l0), some (pI l1), some (pI l2)] [pI x1, pI x0] LY nx (h, r, s) Q ↔ (if x1 < x0 then Wp 127 14 [some (pI l0), some (pI l1), some (pI l2)] [] LY nx (h, r, s) Q else Wp 127 10 [some (pI l0), some (pI l1), some (pI l2)] [] LY nx (h, r, s) Q))) ∧
  (∀ (l0 : Int) (l1 : Int) (l2 : Int) (nx : Nat) (h r : PF) (s : Int → Int) (Q : PO → PY → Nat → PC → Prop), (Wp 127 10 [some (pI l0), some (pI l1), some (pI l2)] [] LY nx (h, r, s) Q ↔ Wp 127 11 [some (pI l0), some (pI l1), some (pI l2)] [pI 1] LY nx (h, r, s) Q)) ∧
  (∀ (l0 : Int) (l1 : Int) (l2 : Int) (x0 : Int) (nx : Nat) (h r : PF) (s : Int → Int) (Q : PO → PY → Nat → PC → Prop), (Wp 127 11 [some (pI l0), some (pI l1), some (pI l2)] [pI x0] LY nx (h, r, s) Q ↔ Wp 127 15 [some (pI l0), some (pI l1), some (pI l2)] [pI x0] LY nx (h, r, s) Q)) ∧
  (∀ (l0 : Int) (l1 : Int) (l2 : Int) (nx : Nat) (h r : PF) (s : Int → Int) (Q : PO → PY → Nat → PC → Prop), (Wp 127 14 [some (pI l0), some (pI l1), some (pI l2)] [] LY nx (h, r, s) Q ↔ Wp 127 15 [some (pI l0), some (pI l1), some (pI l2)] [pI 0] LY nx (h, r, s) Q)) ∧
  (∀ (l0 : Int) (l1 : Int) (l2 : Int) (x0 : Int) (nx : Nat) (h r : PF) (s : Int → Int) (Q : PO → PY → Nat → PC → Prop), x0 = 0 ∨ x0 = 1 → (Wp 127 15 [some (pI l0), some (pI l1), some (pI l2)] [pI x0] LY nx (h, r, s) Q ↔ Q (Sum.inl (some (pI x0))) LY nx (h, r, s))) :=
  ⟨fun l0 l1 l2 nx h r s Q  => o_iload_n (by decide +kernel : pcode 127 0 = some (6, 0, 0, 0, 0)) rfl,
  fun l0 l1 l2 x0 nx h r s Q  => o_iload_n (by decide +kernel : pcode 127 1 = some (6, 1, 0, 0, 0)) rfl,
  fun l0 l1 l2 x0 x1 nx h r s Q  => o_icmp_lt (by decide +kernel : pcode 127 2 = some (49, 14, 0, 0, 12)),
  fun l0 l1 l2 nx h r s Q  => o_iload_n (by decide +kernel : pcode 127 5 = some (6, 0, 0, 0, 0)) rfl,
  fun l0 l1 l2 x0 nx h r s Q  => o_iload_n (by decide +kernel : pcode 127 6 = some (6, 2, 0, 0, 0)) rfl,
  fun l0 l1 l2 x0 x1 nx h r s Q  => o_icmp_gt (by decide +kernel : pcode 127 7 = some (51, 14, 0, 0, 7)),
  fun l0 l1 l2 nx h r s Q  => o_iconst (by decide +kernel : pcode 127 10 = some (1, 0, 0, 0, 1)),
  fun l0 l1 l2 x0 nx h r s Q  => o_goto (by decide +kernel : pcode 127 11 = some (53, 15, 0, 0, 4)),
  fun l0 l1 l2 nx h r s Q  => o_iconst (by decide +kernel : pcode 127 14 = some (1, 0, 0, 0, 0)),
  fun l0 l1 l2 x0 nx h r s Q hz => o_zret (by decide +kernel : pcode 127 15 = some (88, 0, 0, 0, 0)) hz⟩
set_option maxHeartbeats 4000000 in
set_option maxRecDepth 10000 in
theorem st_X8_throwsIf :
  (∀ (l1 : Int) (l2 : Int) (nx : Nat) (h r : PF) (s : Int → Int) (Q : PO → PY → Nat → PC → Prop), (Wp 128 0 [some (pR 178), some (pI l1), some (pI l2)] [] LY nx (h, r, s) Q ↔ Wp 128 1 [some (pR 178), some (pI l1), some (pI l2)] [pR 178] LY nx (h, r, s) Q)) ∧
  (∀ (l1 : Int) (l2 : Int) (nx : Nat) (h r : PF) (s : Int → Int) (Q : PO → PY → Nat → PC → Prop), (Wp 128 1 [some (pR 178), some (pI l1), some (pI l2)] [pR 178] LY nx (h, r, s) Q ↔ Wp 128 4 [some (pR 178), some (pI l1), some (pI l2)] [pI (h 178 0)] LY nx (h, r, s) Q)) ∧
  (∀ (l1 : Int) (l2 : Int) (x0 : Int) (nx : Nat) (h r : PF) (s : Int → Int) (Q : PO → PY → Nat → PC → Prop), (Wp 128 4 [some (pR 178), some (pI l1), some (pI l2)] [pI x0] LY nx (h, r, s) Q ↔ (if x0 ≠ 0 then Wp 128 16 [some (pR 178), some (pI l1), some (pI l2)] [] LY nx (h, r, s) Q else Wp 128 7 [some (pR 178), some (pI l1), some (pI l2)] [] LY nx (h, r, s) Q))) ∧
  (∀ (l1 : Int) (l2 : Int) (nx : Nat) (h r : PF) (s : Int → Int) (Q : PO → PY → Nat → PC → Prop), (Wp 128 7 [some (pR 178), some (pI l1), some (pI l2)] [] LY nx (h, r, s) Q ↔ Wp 128 8 [some (pR 178), some (pI l1), some (pI l2)] [pI l1] LY nx (h, r, s) Q)) ∧
  (∀ (l1 : Int) (l2 : Int) (x0 : Int) (nx : Nat) (h r : PF) (s : Int → Int) (Q : PO → PY → Nat → PC → Prop), (Wp 128 8 [some (pR 178), some (pI l1), some (pI l2)] [pI x0] LY nx (h, r, s) Q ↔ (if x0 = 0 then Wp 128 16 [some (pR 178), some (pI l1), some (pI l2)] [] LY nx (h, r, s) Q else Wp 128 11 [some (pR 178), some (pI l1), some (pI l2)] [] LY nx (h, r, s) Q))) ∧
  (∀ (l1 : Int) (l2 : Int) (nx : Nat) (h r : PF) (s : Int → Int) (Q : PO → PY → Nat → PC → Prop), (Wp 128 11 [some (pR 178), some (pI l1), some (pI l2)] [] LY nx (h, r, s) Q ↔ Wp 128 12 [some (pR 178), some (pI l1), some (pI l2)] [pR 178] LY nx (h, r, s) Q)) ∧
  (∀ (l1 : Int) (l2 : Int) (nx : Nat) (h r : PF) (s : Int → Int) (Q : PO → PY → Nat → PC → Prop), (Wp 128 12 [some (pR 178), some (pI l1), some (pI l2)] [pR 178] LY nx (h, r, s) Q ↔ Wp 128 13 [some (pR 178), some (pI l1), some (pI l2)] [pI l2, pR 178] LY nx (h, r, s) Q)) ∧
  (∀ (l1 : Int) (l2 : Int) (x1 : Int) (nx : Nat) (h r : PF) (s : Int → Int) (Q : PO → PY → Nat → PC → Prop), (Wp 128 13 [some (pR 178), some (pI l1), some (pI l2)] [pI x1, pR 178] LY nx (h, r, s) Q ↔ Wp 128 16 [some (pR 178), some (pI l1), some (pI l2)] [] LY nx (fup h 178 0 x1, r, s) Q)) ∧
  (∀ (l1 : Int) (l2 : Int) (nx : Nat) (h r : PF) (s : Int → Int) (Q : PO → PY → Nat → PC → Prop), (Wp 128 16 [some (pR 178), some (pI l1), some (pI l2)] [] LY nx (h, r, s) Q ↔ Wp 128 17 [some (pR 178), some (pI l1), some (pI l2)] [pR 178] LY nx (h, r, s) Q)) ∧
  (∀ (l1 : Int) (l2 : Int) (nx : Nat) (h r : PF) (s : Int → Int) (Q : PO → PY → Nat → PC → Prop), (Wp 128 17 [some (pR 178), some (pI l1), some (pI l2)] [pR 178] LY nx (h, r, s) Q ↔ Wp 128 20 [some (pR 178), some (pI l1), some (pI l2)] [pI (h 178 0)] LY nx (h, r, s) Q)) ∧
  (∀ (l1 : Int) (l2 : Int) (x0 : Int) (nx : Nat) (h r : PF) (s : Int → Int) (Q : PO → PY → Nat → PC → Prop), (Wp 128 20 [some (pR 178), some (pI l1), some (pI l2)] [pI x0] LY nx (h, r, s) Q ↔ (if x0 ≤ 0 then Wp 128 27 [some (pR 178), some (pI l1), some (pI l2)] [] LY nx (h, r, s) Q else Wp 128 23 [some (pR 178), some (pI l1), some (pI l2)] [] LY nx (h, r, s) Q))) ∧
  (∀ (l1 : Int) (l2 : Int) (nx : Nat) (h r : PF) (s : Int → Int) (Q : PO → PY → Nat → PC → Prop), (Wp 128 23 [some (pR 178), some (pI l1), some (pI l2)] [] LY nx (h, r, s) Q ↔ Wp 128 24 [some (pR 178), some (pI l1), some (pI l2)] [pI 1] LY nx (h, r, s) Q)) ∧
  (∀ (l1 : Int) (l2 : Int) (x0 : Int) (nx : Nat) (h r : PF) (s : Int → Int) (Q : PO → PY → Nat → PC → Prop), (Wp 128 24 [some (pR 178), some (pI l1), some (pI l2)] [pI x0] LY nx (h, r, s) Q ↔ Wp 128 28 [some (pR 178), some (pI l1), some (pI l2)] [pI x0] LY nx (h, r, s) Q)) ∧
  (∀ (l1 : Int) (l2 : Int) (nx : Nat) (h r : PF) (s : Int → Int) (Q : PO → PY → Nat → PC → Prop), (Wp 128 27 [some (pR 178), some (pI l1), some (pI l2)] [] LY nx (h, r, s) Q ↔ Wp 128 28 [some (pR 178), some (pI l1), some (pI l2)] [pI 0] LY nx (h, r, s) Q)) ∧
  (∀ (l1 : Int) (l2 : Int) (x0 : Int) (nx : Nat) (h r : PF) (s : Int → Int) (Q : PO → PY → Nat → PC → Prop), x0 = 0 ∨ x0 = 1 → (Wp 128 28 [some (pR 178), some (pI l1), some (pI l2)] [pI x0] LY nx (h, r, s) Q ↔ Q (Sum.inl (some (pI x0))) LY nx (h, r, s))) :=
  ⟨fun l1 l2 nx h r s Q  => o_aload_n (by decide +kernel : pcode 128 0 = some (10, 0, 0, 0, 0)) rfl,
  fun l1 l2 nx h r s Q  => o_getI (by decide +kernel : pcode 128 1 = some (55, 1217, 8, 0, 71)) (by decide) (by decide +kernel),
  fun l1 l2 x0 nx h r s Q  => o_if_ne (by decide +kernel : pcode 128 4 = some (42, 16, 0, 0, 12)),
  fun l1 l2 nx h r s Q  => o_iload_n (by decide +kernel : pcode 128 7 = some (6, 1, 0, 0, 0)) rfl,
  fun l1 l2 x0 nx h r s Q  => o_if_eq (by decide +kernel : pcode 128 8 = some (41, 16, 0, 0, 8)),
  fun l1 l2 nx h r s Q  => o_aload_n (by decide +kernel : pcode 128 11 = some (10, 0, 0, 0, 0)) rfl,
  fun l1 l2 nx h r s Q  => o_iload_n (by decide +kernel : pcode 128 12 = some (6, 2, 0, 0, 0)) rfl,
  fun l1 l2 x1 nx h r s Q  => o_putI (by decide +kernel : pcode 128 13 = some (58, 1217, 8, 0, 71)) (by decide) (by decide +kernel),
  fun l1 l2 nx h r s Q  => o_aload_n (by decide +kernel : pcode 128 16 = some (10, 0, 0, 0, 0)) rfl,
  fun l1 l2 nx h r s Q  => o_getI (by decide +kernel : pcode 128 17 = some (55, 1217, 8, 0, 71)) (by decide) (by decide +kernel),
  fun l1 l2 x0 nx h r s Q  => o_if_le (by decide +kernel : pcode 128 20 = some (46, 27, 0, 0, 7)),
  fun l1 l2 nx h r s Q  => o_iconst (by decide +kernel : pcode 128 23 = some (1, 0, 0, 0, 1)),
  fun l1 l2 x0 nx h r s Q  => o_goto (by decide +kernel : pcode 128 24 = some (53, 28, 0, 0, 4)),
  fun l1 l2 nx h r s Q  => o_iconst (by decide +kernel : pcode 128 27 = some (1, 0, 0, 0, 0)),
  fun l1 l2 x0 nx h r s Q hz => o_zret (by decide +kernel : pcode 128 28 = some (88, 0, 0, 0, 0)) hz⟩
set_option maxHeartbeats 4000000 in
set_option maxRecDepth 10000 in
theorem st_X8_append :
  (∀ (l1 : Int) (l2 : Int) (l3 : Int) (l4 : Int) (l5 : Int) (nx : Nat) (h r : PF) (s : Int → Int) (Q : PO → PY → Nat → PC → Prop), (Wp 129 0 [some (pR 178), some (pI l1), some (pI l2), some (pI l3), some (pI l4), some (pI l5)] [] LY nx (h, r, s) Q ↔ Wp 129 1 [some (pR 178), some (pI l1), some (pI l2), some (pI l3), some (pI l4), some (pI l5)] [pR 178] LY nx (h, r, s) Q)) ∧
  (∀ (l1 : Int) (l2 : Int) (l3 : Int) (l4 : Int) (l5 : Int) (nx : Nat) (h r : PF) (s : Int → Int) (Q : PO → PY → Nat → PC → Prop), (Wp 129 1 [some (pR 178), some (pI l1), some (pI l2), some (pI l3), some (pI l4), some (pI l5)] [pR 178] LY nx (h, r, s) Q ↔ Wp 129 2 [some (pR 178), some (pI l1), some (pI l2), some (pI l3), some (pI l4), some (pI l5)] [pI 0, pR 178] LY nx (h, r, s) Q)) ∧
  (∀ (l1 : Int) (l2 : Int) (l3 : Int) (l4 : Int) (l5 : Int) (x1 : Int) (nx : Nat) (h r : PF) (s : Int → Int) (Q : PO → PY → Nat → PC → Prop), (Wp 129 2 [some (pR 178), some (pI l1), some (pI l2), some (pI l3), some (pI l4), some (pI l5)] [pI x1, pR 178] LY nx (h, r, s) Q ↔ Wp 129 5 [some (pR 178), some (pI l1), some (pI l2), some (pI l3), some (pI l4), some (pI l5)] [] LY nx (fup h 178 0 x1, r, s) Q)) ∧
  (∀ (l1 : Int) (l2 : Int) (l3 : Int) (l4 : Int) (l5 : Int) (nx : Nat) (h r : PF) (s : Int → Int) (Q : PO → PY → Nat → PC → Prop), (Wp 129 5 [some (pR 178), some (pI l1), some (pI l2), some (pI l3), some (pI l4), some (pI l5)] [] LY nx (h, r, s) Q ↔ Wp 129 6 [some (pR 178), some (pI l1), some (pI l2), some (pI l3), some (pI l4), some (pI l5)] [pR 178] LY nx (h, r, s) Q)) ∧
  (∀ (l1 : Int) (l2 : Int) (l3 : Int) (l4 : Int) (l5 : Int) (nx : Nat) (h r : PF) (s : Int → Int) (Q : PO → PY → Nat → PC → Prop), (Wp 129 6 [some (pR 178), some (pI l1), some (pI l2), some (pI l3), some (pI l4), some (pI l5)] [pR 178] LY nx (h, r, s) Q ↔ Wp 129 9 [some (pR 178), some (pI l1), some (pI l2), some (pI l3), some (pI l4), some (pI l5)] [pI (h 178 4)] LY nx (h, r, s) Q)) ∧
  (∀ (l1 : Int) (l2 : Int) (l3 : Int) (l4 : Int) (l5 : Int) (x0 : Int) (nx : Nat) (h r : PF) (s : Int → Int) (Q : PO → PY → Nat → PC → Prop), (Wp 129 9 [some (pR 178), some (pI l1), some (pI l2), some (pI l3), some (pI l4), some (pI l5)] [pI x0] LY nx (h, r, s) Q ↔ Wp 129 11 [some (pR 178), some (pI l1), some (pI l2), some (pI l3), some (pI l4), some (pI l5)] [pI 20, pI x0] LY nx (h, r, s) Q)) ∧
  (∀ (l1 : Int) (l2 : Int) (l3 : Int) (l4 : Int) (l5 : Int) (x0 : Int) (x1 : Int) (nx : Nat) (h r : PF) (s : Int → Int) (Q : PO → PY → Nat → PC → Prop), (Wp 129 11 [some (pR 178), some (pI l1), some (pI l2), some (pI l3), some (pI l4), some (pI l5)] [pI x1, pI x0] LY nx (h, r, s) Q ↔ Wp 129 12 [some (pR 178), some (pI l1), some (pI l2), some (pI l3), some (pI l4), some (pI l5)] [pI (w32 (x0 + x1))] LY nx (h, r, s) Q)) ∧
  (∀ (l1 : Int) (l2 : Int) (l3 : Int) (l4 : Int) (l5 : Int) (x0 : Int) (nx : Nat) (h r : PF) (s : Int → Int) (Q : PO → PY → Nat → PC → Prop), (Wp 129 12 [some (pR 178), some (pI l1), some (pI l2), some (pI l3), some (pI l4), some (pI l5)] [pI x0] LY nx (h, r, s) Q ↔ Wp 129 15 [some (pR 178), some (pI l1), some (pI l2), some (pI l3), some (pI l4), some (pI l5)] [pI 600, pI x0] LY nx (h, r, s) Q)) ∧
  (∀ (l1 : Int) (l2 : Int) (l3 : Int) (l4 : Int) (l5 : Int) (x0 : Int) (x1 : Int) (nx : Nat) (h r : PF) (s : Int → Int) (Q : PO → PY → Nat → PC → Prop), (Wp 129 15 [some (pR 178), some (pI l1), some (pI l2), some (pI l3), some (pI l4), some (pI l5)] [pI x1, pI x0] LY nx (h, r, s) Q ↔ (if x0 ≤ x1 then Wp 129 20 [some (pR 178), some (pI l1), some (pI l2), some (pI l3), some (pI l4), some (pI l5)] [] LY nx (h, r, s) Q else Wp 129 18 [some (pR 178), some (pI l1), some (pI l2), some (pI l3), some (pI l4), some (pI l5)] [] LY nx (h, r, s) Q))) ∧
  (∀ (l1 : Int) (l2 : Int) (l3 : Int) (l4 : Int) (l5 : Int) (nx : Nat) (h r : PF) (s : Int → Int) (Q : PO → PY → Nat → PC → Prop), (Wp 129 18 [some (pR 178), some (pI l1), some (pI l2), some (pI l3), some (pI l4), some (pI l5)] [] LY nx (h, r, s) Q ↔ Wp 129 19 [some (pR 178), some (pI l1), some (pI l2), some (pI l3), some (pI l4), some (pI l5)] [pI (-1)] LY nx (h, r, s) Q)) ∧
  (∀ (l1 : Int) (l2 : Int) (l3 : Int) (l4 : Int) (l5 : Int) (x0 : Int) (nx : Nat) (h r : PF) (s : Int → Int) (Q : PO → PY → Nat → PC → Prop), (Wp 129 19 [some (pR 178), some (pI l1), some (pI l2), some (pI l3), some (pI l4), some (pI l5)] [pI x0] LY nx (h, r, s) Q ↔ Q (Sum.inl (some (pI x0))) LY nx (h, r, s))) ∧
  (∀ (l1 : Int) (l2 : Int) (l3 : Int) (l4 : Int) (l5 : Int) (nx : Nat) (h r : PF) (s : Int → Int) (Q : PO → PY → Nat → PC → Prop), (Wp 129 20 [some (pR 178), some (pI l1), some (pI l2), some (pI l3), some (pI l4), some (pI l5)] [] LY nx (h, r, s) Q ↔ Wp 129 21 [some (pR 178), some (pI l1), some (pI l2), some (pI l3), some (pI l4), some (pI l5)] [pR 178] LY nx (h, r, s) Q)) ∧
  (∀ (l1 : Int) (l2 : Int) (l3 : Int) (l4 : Int) (l5 : Int) (nx : Nat) (h r : PF) (s : Int → Int) (Q : PO → PY → Nat → PC → Prop), (Wp 129 21 [some (pR 178), some (pI l1), some (pI l2), some (pI l3), some (pI l4), some (pI l5)] [pR 178] LY nx (h, r, s) Q ↔ Wp 129 22 [some (pR 178), some (pI l1), some (pI l2), some (pI l3), some (pI l4), some (pI l5)] [pI l1, pR 178] LY nx (h, r, s) Q)) ∧
  (∀ (l1 : Int) (l2 : Int) (l3 : Int) (l4 : Int) (l5 : Int) (x1 : Int) (nx : Nat) (h r : PF) (s : Int → Int) (Q : PO → PY → Nat → PC → Prop), (Wp 129 22 [some (pR 178), some (pI l1), some (pI l2), some (pI l3), some (pI l4), some (pI l5)] [pI x1, pR 178] LY nx (h, r, s) Q ↔ Wp 130 0 [some (pR 178), some (pI x1), none] [] LY nx (h, r, s) (Kc 129 22 [some (pR 178), some (pI l1), some (pI l2), some (pI l3), some (pI l4), some (pI l5)] 25 [] Q))) ∧
  (∀ (l1 : Int) (l2 : Int) (l3 : Int) (l4 : Int) (l5 : Int) (nx : Nat) (h r : PF) (s : Int → Int) (Q : PO → PY → Nat → PC → Prop), (Wp 129 25 [some (pR 178), some (pI l1), some (pI l2), some (pI l3), some (pI l4), some (pI l5)] [] LY nx (h, r, s) Q ↔ Wp 129 26 [some (pR 178), some (pI l1), some (pI l2), some (pI l3), some (pI l4), some (pI l5)] [pR 178] LY nx (h, r, s) Q)) ∧
  (∀ (l1 : Int) (l2 : Int) (l3 : Int) (l4 : Int) (l5 : Int) (nx : Nat) (h r : PF) (s : Int → Int) (Q : PO → PY → Nat → PC → Prop), (Wp 129 26 [some (pR 178), some (pI l1), some (pI l2), some (pI l3), some (pI l4), some (pI l5)] [pR 178] LY nx (h, r, s) Q ↔ Wp 129 27 [some (pR 178), some (pI l1), some (pI l2), some (pI l3), some (pI l4), some (pI l5)] [pI l2, pR 178] LY nx (h, r, s) Q)) ∧
  (∀ (l1 : Int) (l2 : Int) (l3 : Int) (l4 : Int) (l5 : Int) (x1 : Int) (nx : Nat) (h r : PF) (s : Int → Int) (Q : PO → PY → Nat → PC → Prop), (Wp 129 27 [some (pR 178), some (pI l1), some (pI l2), some (pI l3), some (pI l4), some (pI l5)] [pI x1, pR 178] LY nx (h, r, s) Q ↔ Wp 130 0 [some (pR 178), some (pI x1), none] [] LY nx (h, r, s) (Kc 129 27 [some (pR 178), some (pI l1), some (pI l2), some (pI l3), some (pI l4), some (pI l5)] 30 [] Q))) ∧
  (∀ (l1 : Int) (l2 : Int) (l3 : Int) (l4 : Int) (l5 : Int) (nx : Nat) (h r : PF) (s : Int → Int) (Q : PO → PY → Nat → PC → Prop), (Wp 129 30 [some (pR 178), some (pI l1), some (pI l2), some (pI l3), some (pI l4), some (pI l5)] [] LY nx (h, r, s) Q ↔ Wp 129 31 [some (pR 178), some (pI l1), some (pI l2), some (pI l3), some (pI l4), some (pI l5)] [pR 178] LY nx (h, r, s) Q)) ∧
  (∀ (l1 : Int) (l2 : Int) (l3 : Int) (l4 : Int) (l5 : Int) (nx : Nat) (h r : PF) (s : Int → Int) (Q : PO → PY → Nat → PC → Prop), (Wp 129 31 [some (pR 178), some (pI l1), some (pI l2), some (pI l3), some (pI l4), some (pI l5)] [pR 178] LY nx (h, r, s) Q ↔ Wp 129 32 [some (pR 178), some (pI l1), some (pI l2), some (pI l3), some (pI l4), some (pI l5)] [pI l3, pR 178] LY nx (h, r, s) Q)) ∧
  (∀ (l1 : Int) (l2 : Int) (l3 : Int) (l4 : Int) (l5 : Int) (x1 : Int) (nx : Nat) (h r : PF) (s : Int → Int) (Q : PO → PY → Nat → PC → Prop), (Wp 129 32 [some (pR 178), some (pI l1), some (pI l2), some (pI l3), some (pI l4), some (pI l5)] [pI x1, pR 178] LY nx (h, r, s) Q ↔ Wp 130 0 [some (pR 178), some (pI x1), none] [] LY nx (h, r, s) (Kc 129 32 [some (pR 178), some (pI l1), some (pI l2), some (pI l3), some (pI l4), some (pI l5)] 35 [] Q))) ∧
  (∀ (l1 : Int) (l2 : Int) (l3 : Int) (l4 : Int) (l5 : Int) (nx : Nat) (h r : PF) (s : Int → Int) (Q : PO → PY → Nat → PC → Prop), (Wp 129 35 [some (pR 178), some (pI l1), some (pI l2), some (pI l3), some (pI l4), some (pI l5)] [] LY nx (h, r, s) Q ↔ Wp 129 36 [some (pR 178), some (pI l1), some (pI l2), some (pI l3), some (pI l4), some (pI l5)] [pR 178] LY nx (h, r, s) Q)) ∧
  (∀ (l1 : Int) (l2 : Int) (l3 : Int) (l4 : Int) (l5 : Int) (nx : Nat) (h r : PF) (s : Int → Int) (Q : PO → PY → Nat → PC → Prop), (Wp 129 36 [some (pR 178), some (pI l1), some (pI l2), some (pI l3), some (pI l4), some (pI l5)] [pR 178] LY nx (h, r, s) Q ↔ Wp 129 38 [some (pR 178), some (pI l1), some (pI l2), some (pI l3), some (pI l4), some (pI l5)] [pI l4, pR 178] LY nx (h, r, s) Q)) ∧
  (∀ (l1 : Int) (l2 : Int) (l3 : Int) (l4 : Int) (l5 : Int) (x1 : Int) (nx : Nat) (h r : PF) (s : Int → Int) (Q : PO → PY → Nat → PC → Prop), (Wp 129 38 [some (pR 178), some (pI l1), some (pI l2), some (pI l3), some (pI l4), some (pI l5)] [pI x1, pR 178] LY nx (h, r, s) Q ↔ Wp 130 0 [some (pR 178), some (pI x1), none] [] LY nx (h, r, s) (Kc 129 38 [some (pR 178), some (pI l1), some (pI l2), some (pI l3), some (pI l4), some (pI l5)] 41 [] Q))) ∧
  (∀ (l1 : Int) (l2 : Int) (l3 : Int) (l4 : Int) (l5 : Int) (nx : Nat) (h r : PF) (s : Int → Int) (Q : PO → PY → Nat → PC → Prop), (Wp 129 41 [some (pR 178), some (pI l1), some (pI l2), some (pI l3), some (pI l4), some (pI l5)] [] LY nx (h, r, s) Q ↔ Wp 129 42 [some (pR 178), some (pI l1), some (pI l2), some (pI l3), some (pI l4), some (pI l5)] [pR 178] LY nx (h, r, s) Q)) ∧
  (∀ (l1 : Int) (l2 : Int) (l3 : Int) (l4 : Int) (l5 : Int) (nx : Nat) (h r : PF) (s : Int → Int) (Q : PO → PY → Nat → PC → Prop), (Wp 129 42 [some (pR 178), some (pI l1), some (pI l2), some (pI l3), some (pI l4), some (pI l5)] [pR 178] LY nx (h, r, s) Q ↔ Wp 129 44 [some (pR 178), some (pI l1), some (pI l2), some (pI l3), some (pI l4), some (pI l5)] [pI l5, pR 178] LY nx (h, r, s) Q)) ∧
  (∀ (l1 : Int) (l2 : Int) (l3 : Int) (l4 : Int) (l5 : Int) (x1 : Int) (nx : Nat) (h r : PF) (s : Int → Int) (Q : PO → PY → Nat → PC → Prop), (Wp 129 44 [some (pR 178), some (pI l1), some (pI l2), some (pI l3), some (pI l4), some (pI l5)] [pI x1, pR 178] LY nx (h, r, s) Q ↔ Wp 130 0 [some (pR 178), some (pI x1), none] [] LY nx (h, r, s) (Kc 129 44 [some (pR 178), some (pI l1), some (pI l2), some (pI l3), some (pI l4), some (pI l5)] 47 [] Q))) ∧
  (∀ (l1 : Int) (l2 : Int) (l3 : Int) (l4 : Int) (l5 : Int) (nx : Nat) (h r : PF) (s : Int → Int) (Q : PO → PY → Nat → PC → Prop), (Wp 129 47 [some (pR 178), some (pI l1), some (pI l2), some (pI l3), some (pI l4), some (pI l5)] [] LY nx (h, r, s) Q ↔ Wp 129 48 [some (pR 178), some (pI l1), some (pI l2), some (pI l3), some (pI l4), some (pI l5)] [pR 178] LY nx (h, r, s) Q)) ∧
  (∀ (l1 : Int) (l2 : Int) (l3 : Int) (l4 : Int) (l5 : Int) (nx : Nat) (h r : PF) (s : Int → Int) (Q : PO → PY → Nat → PC → Prop), (Wp 129 48 [some (pR 178), some (pI l1), some (pI l2), some (pI l3), some (pI l4), some (pI l5)] [pR 178] LY nx (h, r, s) Q ↔ Wp 129 51 [some (pR 178), some (pI l1), some (pI l2), some (pI l3), some (pI l4), some (pI l5)] [pI (h 178 4)] LY nx (h, r, s) Q)) ∧
  (∀ (l1 : Int) (l2 : Int) (l3 : Int) (l4 : Int) (l5 : Int) (x0 : Int) (nx : Nat) (h r : PF) (s : Int → Int) (Q : PO → PY → Nat → PC → Prop), (Wp 129 51 [some (pR 178), some (pI l1), some (pI l2), some (pI l3), some (pI l4), some (pI l5)] [pI x0] LY nx (h, r, s) Q ↔ Q (Sum.inl (some (pI x0))) LY nx (h, r, s))) :=
  ⟨fun l1 l2 l3 l4 l5 nx h r s Q  => o_aload_n (by decide +kernel : pcode 129 0 = some (10, 0, 0, 0, 0)) rfl,
  fun l1 l2 l3 l4 l5 nx h r s Q  => o_iconst (by decide +kernel : pcode 129 1 = some (1, 0, 0, 0, 0)),
  fun l1 l2 l3 l4 l5 x1 nx h r s Q  => o_putI (by decide +kernel : pcode 129 2 = some (58, 1217, 8, 0, 71)) (by decide) (by decide +kernel),
  fun l1 l2 l3 l4 l5 nx h r s Q  => o_aload_n (by decide +kernel : pcode 129 5 = some (10, 0, 0, 0, 0)) rfl,
  fun l1 l2 l3 l4 l5 nx h r s Q  => o_getI (by decide +kernel : pcode 129 6 = some (55, 1221, 8, 4, 74)) (by decide) (by decide +kernel),
  fun l1 l2 l3 l4 l5 x0 nx h r s Q  => o_bipush (by decide +kernel : pcode 129 9 = some (2, 0, 0, 0, 20)),
  fun l1 l2 l3 l4 l5 x0 x1 nx h r s Q  => o_iadd (by decide +kernel : pcode 129 11 = some (19, 0, 0, 0, 0)),
  fun l1 l2 l3 l4 l5 x0 nx h r s Q  => o_sipush (by decide +kernel : pcode 129 12 = some (3, 0, 0, 0, 600)),
  fun l1 l2 l3 l4 l5 x0 x1 nx h r s Q  => o_icmp_le (by decide +kernel : pcode 129 15 = some (52, 20, 0, 0, 5)),
  fun l1 l2 l3 l4 l5 nx h r s Q  => o_iconst (by decide +kernel : pcode 129 18 = some (1, 0, 0, 0, -1)),
  fun l1 l2 l3 l4 l5 x0 nx h r s Q  => o_iret (by decide +kernel : pcode 129 19 = some (87, 0, 0, 0, 0)),
  fun l1 l2 l3 l4 l5 nx h r s Q  => o_aload_n (by decide +kernel : pcode 129 20 = some (10, 0, 0, 0, 0)) rfl,
  fun l1 l2 l3 l4 l5 nx h r s Q  => o_iload_n (by decide +kernel : pcode 129 21 = some (6, 1, 0, 0, 0)) rfl,
  fun l1 l2 l3 l4 l5 x1 nx h r s Q  => o_ivV (s1 := [pI x1]) (s2 := []) (o := 178) (by decide +kernel : pcode 129 22 = some (78, 130, 2, 1317, 77)) rfl (Nat.le_of_ble_eq_true rfl) (by decide) (by decide +kernel) rfl rfl rfl,
  fun l1 l2 l3 l4 l5 nx h r s Q  => o_aload_n (by decide +kernel : pcode 129 25 = some (10, 0, 0, 0, 0)) rfl,
  fun l1 l2 l3 l4 l5 nx h r s Q  => o_iload_n (by decide +kernel : pcode 129 26 = some (6, 2, 0, 0, 0)) rfl,
  fun l1 l2 l3 l4 l5 x1 nx h r s Q  => o_ivV (s1 := [pI x1]) (s2 := []) (o := 178) (by decide +kernel : pcode 129 27 = some (78, 130, 2, 1317, 77)) rfl (Nat.le_of_ble_eq_true rfl) (by decide) (by decide +kernel) rfl rfl rfl,
  fun l1 l2 l3 l4 l5 nx h r s Q  => o_aload_n (by decide +kernel : pcode 129 30 = some (10, 0, 0, 0, 0)) rfl,
  fun l1 l2 l3 l4 l5 nx h r s Q  => o_iload_n (by decide +kernel : pcode 129 31 = some (6, 3, 0, 0, 0)) rfl,
  fun l1 l2 l3 l4 l5 x1 nx h r s Q  => o_ivV (s1 := [pI x1]) (s2 := []) (o := 178) (by decide +kernel : pcode 129 32 = some (78, 130, 2, 1317, 77)) rfl (Nat.le_of_ble_eq_true rfl) (by decide) (by decide +kernel) rfl rfl rfl,
  fun l1 l2 l3 l4 l5 nx h r s Q  => o_aload_n (by decide +kernel : pcode 129 35 = some (10, 0, 0, 0, 0)) rfl,
  fun l1 l2 l3 l4 l5 nx h r s Q  => o_iload (by decide +kernel : pcode 129 36 = some (7, 4, 0, 0, 0)) rfl,
  fun l1 l2 l3 l4 l5 x1 nx h r s Q  => o_ivV (s1 := [pI x1]) (s2 := []) (o := 178) (by decide +kernel : pcode 129 38 = some (78, 130, 2, 1317, 77)) rfl (Nat.le_of_ble_eq_true rfl) (by decide) (by decide +kernel) rfl rfl rfl,
  fun l1 l2 l3 l4 l5 nx h r s Q  => o_aload_n (by decide +kernel : pcode 129 41 = some (10, 0, 0, 0, 0)) rfl,
  fun l1 l2 l3 l4 l5 nx h r s Q  => o_iload (by decide +kernel : pcode 129 42 = some (7, 5, 0, 0, 0)) rfl,
  fun l1 l2 l3 l4 l5 x1 nx h r s Q  => o_ivV (s1 := [pI x1]) (s2 := []) (o := 178) (by decide +kernel : pcode 129 44 = some (78, 130, 2, 1317, 77)) rfl (Nat.le_of_ble_eq_true rfl) (by decide) (by decide +kernel) rfl rfl rfl,
  fun l1 l2 l3 l4 l5 nx h r s Q  => o_aload_n (by decide +kernel : pcode 129 47 = some (10, 0, 0, 0, 0)) rfl,
  fun l1 l2 l3 l4 l5 nx h r s Q  => o_getI (by decide +kernel : pcode 129 48 = some (55, 1221, 8, 4, 74)) (by decide) (by decide +kernel),
  fun l1 l2 l3 l4 l5 x0 nx h r s Q  => o_iret (by decide +kernel : pcode 129 51 = some (87, 0, 0, 0, 0))⟩
set_option maxHeartbeats 4000000 in
set_option maxRecDepth 10000 in
theorem st_X8_bytesOf :
  (∀ (l1 : Int) (nx : Nat) (h r : PF) (s : Int → Int) (Q : PO → PY → Nat → PC → Prop), (Wp 130 0 [some (pR 178), some (pI l1), none] [] LY nx (h, r, s) Q ↔ Wp 130 2 [some (pR 178), some (pI l1), none] [pI 24] LY nx (h, r, s) Q)) ∧
  (∀ (l1 : Int) (x0 : Int) (nx : Nat) (h r : PF) (s : Int → Int) (Q : PO → PY → Nat → PC → Prop), (Wp 130 2 [some (pR 178), some (pI l1), none] [pI x0] LY nx (h, r, s) Q ↔ Wp 130 3 [some (pR 178), some (pI l1), some (pI x0)] [] LY nx (h, r, s) Q)) ∧
  (∀ (l1 : Int) (l2 : Int) (x0 : Int) (nx : Nat) (h r : PF) (s : Int → Int) (Q : PO → PY → Nat → PC → Prop), (Wp 130 4 [some (pR 178), some (pI l1), some (pI l2)] [pI x0] LY nx (h, r, s) Q ↔ (if x0 < 0 then Wp 130 36 [some (pR 178), some (pI l1), some (pI l2)] [] LY nx (h, r, s) Q else Wp 130 7 [some (pR 178), some (pI l1), some (pI l2)] [] LY nx (h, r, s) Q))) ∧
  (∀ (l1 : Int) (l2 : Int) (nx : Nat) (h r : PF) (s : Int → Int) (Q : PO → PY → Nat → PC → Prop), (Wp 130 7 [some (pR 178), some (pI l1), some (pI l2)] [] LY nx (h, r, s) Q ↔ Wp 130 8 [some (pR 178), some (pI l1), some (pI l2)] [pR 178] LY nx (h, r, s) Q)) ∧
  (∀ (l1 : Int) (l2 : Int) (nx : Nat) (h r : PF) (s : Int → Int) (Q : PO → PY → Nat → PC → Prop), WFr r → (Wp 130 8 [some (pR 178), some (pI l1), some (pI l2)] [pR 178] LY nx (h, r, s) Q ↔ Wp 130 11 [some (pR 178), some (pI l1), some (pI l2)] [pR 181] LY nx (h, r, s) Q)) ∧
  (∀ (l1 : Int) (l2 : Int) (nx : Nat) (h r : PF) (s : Int → Int) (Q : PO → PY → Nat → PC → Prop), (Wp 130 11 [some (pR 178), some (pI l1), some (pI l2)] [pR 181] LY nx (h, r, s) Q ↔ Wp 130 12 [some (pR 178), some (pI l1), some (pI l2)] [pR 178, pR 181] LY nx (h, r, s) Q)) ∧
  (∀ (l1 : Int) (l2 : Int) (nx : Nat) (h r : PF) (s : Int → Int) (Q : PO → PY → Nat → PC → Prop), (Wp 130 12 [some (pR 178), some (pI l1), some (pI l2)] [pR 178, pR 181] LY nx (h, r, s) Q ↔ Wp 130 15 [some (pR 178), some (pI l1), some (pI l2)] [pI (h 178 4), pR 181] LY nx (h, r, s) Q)) ∧
  (∀ (l1 : Int) (l2 : Int) (x1 : Int) (nx : Nat) (h r : PF) (s : Int → Int) (Q : PO → PY → Nat → PC → Prop), (Wp 130 15 [some (pR 178), some (pI l1), some (pI l2)] [pI x1, pR 181] LY nx (h, r, s) Q ↔ Wp 130 16 [some (pR 178), some (pI l1), some (pI l2)] [pI l1, pI x1, pR 181] LY nx (h, r, s) Q)) ∧
  (∀ (l1 : Int) (l2 : Int) (x1 : Int) (x2 : Int) (nx : Nat) (h r : PF) (s : Int → Int) (Q : PO → PY → Nat → PC → Prop), (Wp 130 16 [some (pR 178), some (pI l1), some (pI l2)] [pI x2, pI x1, pR 181] LY nx (h, r, s) Q ↔ Wp 130 17 [some (pR 178), some (pI l1), some (pI l2)] [pI l2, pI x2, pI x1, pR 181] LY nx (h, r, s) Q)) ∧
  (∀ (l1 : Int) (l2 : Int) (x1 : Int) (x2 : Int) (x3 : Int) (nx : Nat) (h r : PF) (s : Int → Int) (Q : PO → PY → Nat → PC → Prop), (Wp 130 17 [some (pR 178), some (pI l1), some (pI l2)] [pI x3, pI x2, pI x1, pR 181] LY nx (h, r, s) Q ↔ Wp 130 18 [some (pR 178), some (pI l1), some (pI l2)] [pI (pshr x2 x3), pI x1, pR 181] LY nx (h, r, s) Q)) ∧
  (∀ (l1 : Int) (l2 : Int) (x1 : Int) (x2 : Int) (nx : Nat) (h r : PF) (s : Int → Int) (Q : PO → PY → Nat → PC → Prop), (Wp 130 18 [some (pR 178), some (pI l1), some (pI l2)] [pI x2, pI x1, pR 181] LY nx (h, r, s) Q ↔ Wp 130 19 [some (pR 178), some (pI l1), some (pI l2)] [pI (w8 x2), pI x1, pR 181] LY nx (h, r, s) Q)) ∧
  (∀ (l1 : Int) (l2 : Int) (x1 : Int) (x2 : Int) (nx : Nat) (h r : PF) (s : Int → Int) (Q : PO → PY → Nat → PC → Prop), 0 ≤ x1 → x1 < 600 → (Wp 130 19 [some (pR 178), some (pI l1), some (pI l2)] [pI x2, pI x1, pR 181] LY nx (h, r, s) Q ↔ Wp 130 20 [some (pR 178), some (pI l1), some (pI l2)] [] LY nx (fup h 181 x1 (w8 x2), r, s) Q)) ∧
  (∀ (l1 : Int) (l2 : Int) (nx : Nat) (h r : PF) (s : Int → Int) (Q : PO → PY → Nat → PC → Prop), (Wp 130 20 [some (pR 178), some (pI l1), some (pI l2)] [] LY nx (h, r, s) Q ↔ Wp 130 21 [some (pR 178), some (pI l1), some (pI l2)] [pR 178] LY nx (h, r, s) Q)) ∧
  (∀ (l1 : Int) (l2 : Int) (nx : Nat) (h r : PF) (s : Int → Int) (Q : PO → PY → Nat → PC → Prop), (Wp 130 21 [some (pR 178), some (pI l1), some (pI l2)] [pR 178] LY nx (h, r, s) Q ↔ Wp 130 22 [some (pR 178), some (pI l1), some (pI l2)] [pR 178, pR 178] LY nx (h, r, s) Q)) ∧
  (∀ (l1 : Int) (l2 : Int) (nx : Nat) (h r : PF) (s : Int → Int) (Q : PO → PY → Nat → PC → Prop), (Wp 130 22 [some (pR 178), some (pI l1), some (pI l2)] [pR 178, pR 178] LY nx (h, r, s) Q ↔ Wp 130 25 [some (pR 178), some (pI l1), some (pI l2)] [pI (h 178 4), pR 178] LY nx (h, r, s) Q)) ∧
  (∀ (l1 : Int) (l2 : Int) (x1 : Int) (nx : Nat) (h r : PF) (s : Int → Int) (Q : PO → PY → Nat → PC → Prop), (Wp 130 25 [some (pR 178), some (pI l1), some (pI l2)] [pI x1, pR 178] LY nx (h, r, s) Q ↔ Wp 130 26 [some (pR 178), some (pI l1), some (pI l2)] [pI 1, pI x1, pR 178] LY nx (h, r, s) Q)) ∧
  (∀ (l1 : Int) (l2 : Int) (x1 : Int) (x2 : Int) (nx : Nat) (h r : PF) (s : Int → Int) (Q : PO → PY → Nat → PC → Prop), (Wp 130 26 [some (pR 178), some (pI l1), some (pI l2)] [pI x2, pI x1, pR 178] LY nx (h, r, s) Q ↔ Wp 130 27 [some (pR 178), some (pI l1), some (pI l2)] [pI (w32 (x1 + x2)), pR 178] LY nx (h, r, s) Q)) ∧
  (∀ (l1 : Int) (l2 : Int) (x1 : Int) (nx : Nat) (h r : PF) (s : Int → Int) (Q : PO → PY → Nat → PC → Prop), (Wp 130 27 [some (pR 178), some (pI l1), some (pI l2)] [pI x1, pR 178] LY nx (h, r, s) Q ↔ Wp 130 30 [some (pR 178), some (pI l1), some (pI l2)] [] LY nx (fup h 178 4 x1, r, s) Q)) ∧
  (∀ (l1 : Int) (l2 : Int) (nx : Nat) (h r : PF) (s : Int → Int) (Q : PO → PY → Nat → PC → Prop), (Wp 130 30 [some (pR 178), some (pI l1), some (pI l2)] [] LY nx (h, r, s) Q ↔ Wp 130 33 [some (pR 178), some (pI l1), some (pI (w32 (l2 + (-8))))] [] LY nx (h, r, s) Q)) ∧
  (∀ (l1 : Int) (l2 : Int) (nx : Nat) (h r : PF) (s : Int → Int) (Q : PO → PY → Nat → PC → Prop), (Wp 130 33 [some (pR 178), some (pI l1), some (pI l2)] [] LY nx (h, r, s) Q ↔ Wp 130 3 [some (pR 178), some (pI l1), some (pI l2)] [] LY nx (h, r, s) Q)) ∧
  (∀ (l1 : Int) (l2 : Int) (nx : Nat) (h r : PF) (s : Int → Int) (Q : PO → PY → Nat → PC → Prop), (Wp 130 36 [some (pR 178), some (pI l1), some (pI l2)] [] LY nx (h, r, s) Q ↔ Q (Sum.inl none) LY nx (h, r, s))) :=
  ⟨fun l1 nx h r s Q  => o_bipush (by decide +kernel : pcode 130 0 = some (2, 0, 0, 0, 24)),
  fun l1 x0 nx h r s Q  => o_istore_n (by decide +kernel : pcode 130 2 = some (12, 2, 0, 0, 0)) rfl,
  fun l1 l2 x0 nx h r s Q  => o_if_lt (by decide +kernel : pcode 130 4 = some (43, 36, 0, 0, 32)),
  fun l1 l2 nx h r s Q  => o_aload_n (by decide +kernel : pcode 130 7 = some (10, 0, 0, 0, 0)) rfl,
  fun l1 l2 nx h r s Q hw => o_getR (h := (h, r, s)) (by decide +kernel : pcode 130 8 = some (57, 1220, 8, 3, 16)) (by decide) (by decide +kernel) (hw _ (List.mem_of_getElem? (i := 174) rfl)) (by decide),
  fun l1 l2 nx h r s Q  => o_aload_n (by decide +kernel : pcode 130 11 = some (10, 0, 0, 0, 0)) rfl,
  fun l1 l2 nx h r s Q  => o_getI (by decide +kernel : pcode 130 12 = some (55, 1221, 8, 4, 74)) (by decide) (by decide +kernel),
  fun l1 l2 x1 nx h r s Q  => o_iload_n (by decide +kernel : pcode 130 15 = some (6, 1, 0, 0, 0)) rfl,
  fun l1 l2 x1 x2 nx h r s Q  => o_iload_n (by decide +kernel : pcode 130 16 = some (6, 2, 0, 0, 0)) rfl,
  fun l1 l2 x1 x2 x3 nx h r s Q  => o_ishr (by decide +kernel : pcode 130 17 = some (27, 0, 0, 0, 0)),
  fun l1 l2 x1 x2 nx h r s Q  => o_i2b (by decide +kernel : pcode 130 18 = some (37, 0, 0, 0, 0)),
  fun l1 l2 x1 x2 nx h r s Q hi hn => o_bast (h := (h, r, s)) (n := 600) (by decide +kernel : pcode 130 19 = some (68, 0, 0, 0, 0)) (by decide) (by decide +kernel) hi hn,
  fun l1 l2 nx h r s Q  => o_aload_n (by decide +kernel : pcode 130 20 = some (10, 0, 0, 0, 0)) rfl,
  fun l1 l2 nx h r s Q  => o_dup (by decide +kernel : pcode 130 21 = some (38, 0, 0, 0, 0)) rfl,
  fun l1 l2 nx h r s Q  => o_getI (by decide +kernel : pcode 130 22 = some (55, 1221, 8, 4, 74)) (by decide) (by decide +kernel),
  fun l1 l2 x1 nx h r s Q  => o_iconst (by decide +kernel : pcode 130 25 = some (1, 0, 0, 0, 1)),
  fun l1 l2 x1 x2 nx h r s Q  => o_iadd (by decide +kernel : pcode 130 26 = some (19, 0, 0, 0, 0)),
  fun l1 l2 x1 nx h r s Q  => o_putI (by decide +kernel : pcode 130 27 = some (58, 1221, 8, 4, 74)) (by decide) (by decide +kernel),
  fun l1 l2 nx h r s Q  => o_iinc (by decide +kernel : pcode 130 30 = some (18, 2, 0, 0, -8)) rfl rfl,
  fun l1 l2 nx h r s Q  => o_goto (by decide +kernel : pcode 130 33 = some (53, 3, 0, 0, -30)),
  fun l1 l2 nx h r s Q  => o_vret (by decide +kernel : pcode 130 36 = some (90, 0, 0, 0, 0))⟩
theorem sh_X8_bytesOf_3 {l1 : Int} {l2 : Int} {nx : Nat} {h r : PF} {s : Int → Int} {Q : PO → PY → Nat → PC → Prop} : (Wp 130 3 [some (pR 178), some (pI l1), some (pI l2)] [] LY nx (h, r, s) Q ↔ Wp 130 4 [some (pR 178), some (pI l1), some (pI l2)] [pI l2] LY nx (h, r, s) Q) := o_iload_n (by decide +kernel : pcode 130 3 = some (6, 2, 0, 0, 0)) rfl
set_option maxHeartbeats 4000000 in
set_option maxRecDepth 10000 in
theorem st_X8_byteAt :
  (∀ (l1 : Int) (nx : Nat) (h r : PF) (s : Int → Int) (Q : PO → PY → Nat → PC → Prop), (Wp 131 0 [some (pR 178), some (pI l1)] [] LY nx (h, r, s) Q ↔ Wp 131 1 [some (pR 178), some (pI l1)] [pI l1] LY nx (h, r, s) Q)) ∧
  (∀ (l1 : Int) (x0 : Int) (nx : Nat) (h r : PF) (s : Int → Int) (Q : PO → PY → Nat → PC → Prop), (Wp 131 1 [some (pR 178), some (pI l1)] [pI x0] LY nx (h, r, s) Q ↔ Wp 131 2 [some (pR 178), some (pI l1)] [pR 178, pI x0] LY nx (h, r, s) Q)) ∧
  (∀ (l1 : Int) (x0 : Int) (nx : Nat) (h r : PF) (s : Int → Int) (Q : PO → PY → Nat → PC → Prop), (Wp 131 2 [some (pR 178), some (pI l1)] [pR 178, pI x0] LY nx (h, r, s) Q ↔ Wp 131 5 [some (pR 178), some (pI l1)] [pI (h 178 5), pI x0] LY nx (h, r, s) Q)) ∧
  (∀ (l1 : Int) (x0 : Int) (x1 : Int) (nx : Nat) (h r : PF) (s : Int → Int) (Q : PO → PY → Nat → PC → Prop), (Wp 131 5 [some (pR 178), some (pI l1)] [pI x1, pI x0] LY nx (h, r, s) Q ↔ (if x1 ≤ x0 then Wp 131 21 [some (pR 178), some (pI l1)] [] LY nx (h, r, s) Q else Wp 131 8 [some (pR 178), some (pI l1)] [] LY nx (h, r, s) Q))) ∧
  (∀ (l1 : Int) (nx : Nat) (h r : PF) (s : Int → Int) (Q : PO → PY → Nat → PC → Prop), (Wp 131 8 [some (pR 178), some (pI l1)] [] LY nx (h, r, s) Q ↔ Wp 131 9 [some (pR 178), some (pI l1)] [pR 178] LY nx (h, r, s) Q)) ∧
  (∀ (l1 : Int) (nx : Nat) (h r : PF) (s : Int → Int) (Q : PO → PY → Nat → PC → Prop), WFr r → (Wp 131 9 [some (pR 178), some (pI l1)] [pR 178] LY nx (h, r, s) Q ↔ Wp 131 12 [some (pR 178), some (pI l1)] [pR 181] LY nx (h, r, s) Q)) ∧
  (∀ (l1 : Int) (nx : Nat) (h r : PF) (s : Int → Int) (Q : PO → PY → Nat → PC → Prop), (Wp 131 12 [some (pR 178), some (pI l1)] [pR 181] LY nx (h, r, s) Q ↔ Wp 131 13 [some (pR 178), some (pI l1)] [pI l1, pR 181] LY nx (h, r, s) Q)) ∧
  (∀ (l1 : Int) (x1 : Int) (nx : Nat) (h r : PF) (s : Int → Int) (Q : PO → PY → Nat → PC → Prop), 0 ≤ x1 → x1 < 600 → (Wp 131 13 [some (pR 178), some (pI l1)] [pI x1, pR 181] LY nx (h, r, s) Q ↔ Wp 131 14 [some (pR 178), some (pI l1)] [pI (h 181 x1)] LY nx (h, r, s) Q)) ∧
  (∀ (l1 : Int) (x0 : Int) (nx : Nat) (h r : PF) (s : Int → Int) (Q : PO → PY → Nat → PC → Prop), (Wp 131 14 [some (pR 178), some (pI l1)] [pI x0] LY nx (h, r, s) Q ↔ Wp 131 17 [some (pR 178), some (pI l1)] [pI 255, pI x0] LY nx (h, r, s) Q)) ∧
  (∀ (l1 : Int) (x0 : Int) (x1 : Int) (nx : Nat) (h r : PF) (s : Int → Int) (Q : PO → PY → Nat → PC → Prop), (Wp 131 17 [some (pR 178), some (pI l1)] [pI x1, pI x0] LY nx (h, r, s) Q ↔ Wp 131 18 [some (pR 178), some (pI l1)] [pI (pand x0 x1)] LY nx (h, r, s) Q)) ∧
  (∀ (l1 : Int) (x0 : Int) (nx : Nat) (h r : PF) (s : Int → Int) (Q : PO → PY → Nat → PC → Prop), (Wp 131 18 [some (pR 178), some (pI l1)] [pI x0] LY nx (h, r, s) Q ↔ Wp 131 22 [some (pR 178), some (pI l1)] [pI x0] LY nx (h, r, s) Q)) ∧
  (∀ (l1 : Int) (nx : Nat) (h r : PF) (s : Int → Int) (Q : PO → PY → Nat → PC → Prop), (Wp 131 21 [some (pR 178), some (pI l1)] [] LY nx (h, r, s) Q ↔ Wp 131 22 [some (pR 178), some (pI l1)] [pI (-1)] LY nx (h, r, s) Q)) ∧
  (∀ (l1 : Int) (x0 : Int) (nx : Nat) (h r : PF) (s : Int → Int) (Q : PO → PY → Nat → PC → Prop), (Wp 131 22 [some (pR 178), some (pI l1)] [pI x0] LY nx (h, r, s) Q ↔ Q (Sum.inl (some (pI x0))) LY nx (h, r, s))) :=
  ⟨fun l1 nx h r s Q  => o_iload_n (by decide +kernel : pcode 131 0 = some (6, 1, 0, 0, 0)) rfl,
  fun l1 x0 nx h r s Q  => o_aload_n (by decide +kernel : pcode 131 1 = some (10, 0, 0, 0, 0)) rfl,
  fun l1 x0 nx h r s Q  => o_getI (by decide +kernel : pcode 131 2 = some (55, 1222, 8, 5, 81)) (by decide) (by decide +kernel),
  fun l1 x0 x1 nx h r s Q  => o_icmp_ge (by decide +kernel : pcode 131 5 = some (50, 21, 0, 0, 16)),
  fun l1 nx h r s Q  => o_aload_n (by decide +kernel : pcode 131 8 = some (10, 0, 0, 0, 0)) rfl,
  fun l1 nx h r s Q hw => o_getR (h := (h, r, s)) (by decide +kernel : pcode 131 9 = some (57, 1220, 8, 3, 16)) (by decide) (by decide +kernel) (hw _ (List.mem_of_getElem? (i := 174) rfl)) (by decide),
  fun l1 nx h r s Q  => o_iload_n (by decide +kernel : pcode 131 12 = some (6, 1, 0, 0, 0)) rfl,
  fun l1 x1 nx h r s Q hi hn => o_bald (h := (h, r, s)) (n := 600) (by decide +kernel : pcode 131 13 = some (67, 0, 0, 0, 0)) (by decide) (by decide +kernel) hi hn,
  fun l1 x0 nx h r s Q  => o_sipush (by decide +kernel : pcode 131 14 = some (3, 0, 0, 0, 255)),
  fun l1 x0 x1 nx h r s Q  => o_iand (by decide +kernel : pcode 131 17 = some (22, 0, 0, 0, 0)),
  fun l1 x0 nx h r s Q  => o_goto (by decide +kernel : pcode 131 18 = some (53, 22, 0, 0, 4)),
  fun l1 nx h r s Q  => o_iconst (by decide +kernel : pcode 131 21 = some (1, 0, 0, 0, -1)),
  fun l1 x0 nx h r s Q  => o_iret (by decide +kernel : pcode 131 22 = some (87, 0, 0, 0, 0))⟩
set_option maxHeartbeats 4000000 in
set_option maxRecDepth 10000 in
theorem st_X8_advance_0 :
  (∀  (nx : Nat) (h r : PF) (s : Int → Int) (Q : PO → PY → Nat → PC → Prop), (Wp 132 1 [some (pR 178), none] [pR 178] LY nx (h, r, s) Q ↔ Wp 132 2 [some (pR 178), none] [pR 178, pR 178] LY nx (h, r, s) Q)) ∧
  (∀  (nx : Nat) (h r : PF) (s : Int → Int) (Q : PO → PY → Nat → PC → Prop), (Wp 132 2 [some (pR 178), none] [pR 178, pR 178] LY nx (h, r, s) Q ↔ Wp 132 5 [some (pR 178), none] [pI (h 178 7), pR 178] LY nx (h, r, s) Q)) ∧
  (∀ (x1 : Int) (nx : Nat) (h r : PF) (s : Int → Int) (Q : PO → PY → Nat → PC → Prop), (Wp 132 5 [some (pR 178), none] [pI x1, pR 178] LY nx (h, r, s) Q ↔ Wp 131 0 [some (pR 178), some (pI x1)] [] LY nx (h, r, s) (Kc 132 5 [some (pR 178), none] 8 [] Q))) ∧
  (∀ (x0 : Int) (nx : Nat) (h r : PF) (s : Int → Int) (Q : PO → PY → Nat → PC → Prop), (Wp 132 8 [some (pR 178), none] [pI x0] LY nx (h, r, s) Q ↔ Wp 132 10 [some (pR 178), none] [pI 32, pI x0] LY nx (h, r, s) Q)) ∧
  (∀ (x0 : Int) (x1 : Int) (nx : Nat) (h r : PF) (s : Int → Int) (Q : PO → PY → Nat → PC → Prop), (Wp 132 10 [some (pR 178), none] [pI x1, pI x0] LY nx (h, r, s) Q ↔ (if x0 = x1 then Wp 132 26 [some (pR 178), none] [] LY nx (h, r, s) Q else Wp 132 13 [some (pR 178), none] [] LY nx (h, r, s) Q))) ∧
  (∀  (nx : Nat) (h r : PF) (s : Int → Int) (Q : PO → PY → Nat → PC → Prop), (Wp 132 13 [some (pR 178), none] [] LY nx (h, r, s) Q ↔ Wp 132 14 [some (pR 178), none] [pR 178] LY nx (h, r, s) Q)) ∧
  (∀  (nx : Nat) (h r : PF) (s : Int → Int) (Q : PO → PY → Nat → PC → Prop), (Wp 132 14 [some (pR 178), none] [pR 178] LY nx (h, r, s) Q ↔ Wp 132 15 [some (pR 178), none] [pR 178, pR 178] LY nx (h, r, s) Q)) ∧
  (∀  (nx : Nat) (h r : PF) (s : Int → Int) (Q : PO → PY → Nat → PC → Prop), (Wp 132 15 [some (pR 178), none] [pR 178, pR 178] LY nx (h, r, s) Q ↔ Wp 132 18 [some (pR 178), none] [pI (h 178 7), pR 178] LY nx (h, r, s) Q)) ∧
  (∀ (x1 : Int) (nx : Nat) (h r : PF) (s : Int → Int) (Q : PO → PY → Nat → PC → Prop), (Wp 132 18 [some (pR 178), none] [pI x1, pR 178] LY nx (h, r, s) Q ↔ Wp 131 0 [some (pR 178), some (pI x1)] [] LY nx (h, r, s) (Kc 132 18 [some (pR 178), none] 21 [] Q))) ∧
  (∀ (x0 : Int) (nx : Nat) (h r : PF) (s : Int → Int) (Q : PO → PY → Nat → PC → Prop), (Wp 132 21 [some (pR 178), none] [pI x0] LY nx (h, r, s) Q ↔ Wp 132 23 [some (pR 178), none] [pI 10, pI x0] LY nx (h, r, s) Q)) ∧
  (∀ (x0 : Int) (x1 : Int) (nx : Nat) (h r : PF) (s : Int → Int) (Q : PO → PY → Nat → PC → Prop), (Wp 132 23 [some (pR 178), none] [pI x1, pI x0] LY nx (h, r, s) Q ↔ (if x0 ≠ x1 then Wp 132 39 [some (pR 178), none] [] LY nx (h, r, s) Q else Wp 132 26 [some (pR 178), none] [] LY nx (h, r, s) Q))) ∧
  (∀  (nx : Nat) (h r : PF) (s : Int → Int) (Q : PO → PY → Nat → PC → Prop), (Wp 132 26 [some (pR 178), none] [] LY nx (h, r, s) Q ↔ Wp 132 27 [some (pR 178), none] [pR 178] LY nx (h, r, s) Q)) ∧
  (∀  (nx : Nat) (h r : PF) (s : Int → Int) (Q : PO → PY → Nat → PC → Prop), (Wp 132 27 [some (pR 178), none] [pR 178] LY nx (h, r, s) Q ↔ Wp 132 28 [some (pR 178), none] [pR 178, pR 178] LY nx (h, r, s) Q)) ∧
  (∀  (nx : Nat) (h r : PF) (s : Int → Int) (Q : PO → PY → Nat → PC → Prop), (Wp 132 28 [some (pR 178), none] [pR 178, pR 178] LY nx (h, r, s) Q ↔ Wp 132 31 [some (pR 178), none] [pI (h 178 7), pR 178] LY nx (h, r, s) Q)) ∧
  (∀ (x1 : Int) (nx : Nat) (h r : PF) (s : Int → Int) (Q : PO → PY → Nat → PC → Prop), (Wp 132 31 [some (pR 178), none] [pI x1, pR 178] LY nx (h, r, s) Q ↔ Wp 132 32 [some (pR 178), none] [pI 1, pI x1, pR 178] LY nx (h, r, s) Q)) ∧
  (∀ (x1 : Int) (x2 : Int) (nx : Nat) (h r : PF) (s : Int → Int) (Q : PO → PY → Nat → PC → Prop), (Wp 132 32 [some (pR 178), none] [pI x2, pI x1, pR 178] LY nx (h, r, s) Q ↔ Wp 132 33 [some (pR 178), none] [pI (w32 (x1 + x2)), pR 178] LY nx (h, r, s) Q)) ∧
  (∀ (x1 : Int) (nx : Nat) (h r : PF) (s : Int → Int) (Q : PO → PY → Nat → PC → Prop), (Wp 132 33 [some (pR 178), none] [pI x1, pR 178] LY nx (h, r, s) Q ↔ Wp 132 36 [some (pR 178), none] [] LY nx (fup h 178 7 x1, r, s) Q)) ∧
  (∀  (nx : Nat) (h r : PF) (s : Int → Int) (Q : PO → PY → Nat → PC → Prop), (Wp 132 36 [some (pR 178), none] [] LY nx (h, r, s) Q ↔ Wp 132 0 [some (pR 178), none] [] LY nx (h, r, s) Q)) ∧
  (∀  (nx : Nat) (h r : PF) (s : Int → Int) (Q : PO → PY → Nat → PC → Prop), (Wp 132 39 [some (pR 178), none] [] LY nx (h, r, s) Q ↔ Wp 132 40 [some (pR 178), none] [pR 178] LY nx (h, r, s) Q)) ∧
  (∀  (nx : Nat) (h r : PF) (s : Int → Int) (Q : PO → PY → Nat → PC → Prop), (Wp 132 40 [some (pR 178), none] [pR 178] LY nx (h, r, s) Q ↔ Wp 132 41 [some (pR 178), none] [pR 178, pR 178] LY nx (h, r, s) Q)) ∧
  (∀  (nx : Nat) (h r : PF) (s : Int → Int) (Q : PO → PY → Nat → PC → Prop), (Wp 132 41 [some (pR 178), none] [pR 178, pR 178] LY nx (h, r, s) Q ↔ Wp 132 44 [some (pR 178), none] [pI (h 178 7), pR 178] LY nx (h, r, s) Q)) ∧
  (∀ (x1 : Int) (nx : Nat) (h r : PF) (s : Int → Int) (Q : PO → PY → Nat → PC → Prop), (Wp 132 44 [some (pR 178), none] [pI x1, pR 178] LY nx (h, r, s) Q ↔ Wp 132 47 [some (pR 178), none] [] LY nx (fup h 178 6 x1, r, s) Q)) ∧
  (∀  (nx : Nat) (h r : PF) (s : Int → Int) (Q : PO → PY → Nat → PC → Prop), (Wp 132 47 [some (pR 178), none] [] LY nx (h, r, s) Q ↔ Wp 132 48 [some (pR 178), none] [pR 178] LY nx (h, r, s) Q)) ∧
  (∀  (nx : Nat) (h r : PF) (s : Int → Int) (Q : PO → PY → Nat → PC → Prop), (Wp 132 48 [some (pR 178), none] [pR 178] LY nx (h, r, s) Q ↔ Wp 132 49 [some (pR 178), none] [pI 0, pR 178] LY nx (h, r, s) Q)) ∧
  (∀ (x1 : Int) (nx : Nat) (h r : PF) (s : Int → Int) (Q : PO → PY → Nat → PC → Prop), (Wp 132 49 [some (pR 178), none] [pI x1, pR 178] LY nx (h, r, s) Q ↔ Wp 132 52 [some (pR 178), none] [] LY nx (fup h 178 9 x1, r, s) Q)) ∧
  (∀  (nx : Nat) (h r : PF) (s : Int → Int) (Q : PO → PY → Nat → PC → Prop), (Wp 132 52 [some (pR 178), none] [] LY nx (h, r, s) Q ↔ Wp 132 53 [some (pR 178), none] [pR 178] LY nx (h, r, s) Q)) ∧
  (∀  (nx : Nat) (h r : PF) (s : Int → Int) (Q : PO → PY → Nat → PC → Prop), (Wp 132 53 [some (pR 178), none] [pR 178] LY nx (h, r, s) Q ↔ Wp 132 54 [some (pR 178), none] [pJ 0, pR 178] LY nx (h, r, s) Q)) ∧
  (∀ (x1 : Int) (nx : Nat) (h r : PF) (s : Int → Int) (Q : PO → PY → Nat → PC → Prop), (Wp 132 54 [some (pR 178), none] [pJ x1, pR 178] LY nx (h, r, s) Q ↔ Wp 132 57 [some (pR 178), none] [] LY nx (fup h 178 10 x1, r, s) Q)) ∧
  (∀  (nx : Nat) (h r : PF) (s : Int → Int) (Q : PO → PY → Nat → PC → Prop), (Wp 132 57 [some (pR 178), none] [] LY nx (h, r, s) Q ↔ Wp 132 58 [some (pR 178), none] [pR 178] LY nx (h, r, s) Q)) ∧
  (∀  (nx : Nat) (h r : PF) (s : Int → Int) (Q : PO → PY → Nat → PC → Prop), (Wp 132 58 [some (pR 178), none] [pR 178] LY nx (h, r, s) Q ↔ Wp 132 59 [some (pR 178), none] [pR 178, pR 178] LY nx (h, r, s) Q)) ∧
  (∀  (nx : Nat) (h r : PF) (s : Int → Int) (Q : PO → PY → Nat → PC → Prop), (Wp 132 59 [some (pR 178), none] [pR 178, pR 178] LY nx (h, r, s) Q ↔ Wp 132 62 [some (pR 178), none] [pI (h 178 7), pR 178] LY nx (h, r, s) Q)) ∧
  (∀ (x1 : Int) (nx : Nat) (h r : PF) (s : Int → Int) (Q : PO → PY → Nat → PC → Prop), (Wp 132 62 [some (pR 178), none] [pI x1, pR 178] LY nx (h, r, s) Q ↔ Wp 131 0 [some (pR 178), some (pI x1)] [] LY nx (h, r, s) (Kc 132 62 [some (pR 178), none] 65 [] Q))) ∧
  (∀ (x0 : Int) (nx : Nat) (h r : PF) (s : Int → Int) (Q : PO → PY → Nat → PC → Prop), (Wp 132 65 [some (pR 178), none] [pI x0] LY nx (h, r, s) Q ↔ Wp 132 66 [some (pR 178), some (pI x0)] [] LY nx (h, r, s) Q)) ∧
  (∀ (l1 : Int) (nx : Nat) (h r : PF) (s : Int → Int) (Q : PO → PY → Nat → PC → Prop), (Wp 132 66 [some (pR 178), some (pI l1)] [] LY nx (h, r, s) Q ↔ Wp 132 67 [some (pR 178), some (pI l1)] [pI l1] LY nx (h, r, s) Q)) ∧
  (∀ (l1 : Int) (x0 : Int) (nx : Nat) (h r : PF) (s : Int → Int) (Q : PO → PY → Nat → PC → Prop), (Wp 132 67 [some (pR 178), some (pI l1)] [pI x0] LY nx (h, r, s) Q ↔ Wp 132 68 [some (pR 178), some (pI l1)] [pI (-1), pI x0] LY nx (h, r, s) Q)) ∧
  (∀ (l1 : Int) (x0 : Int) (x1 : Int) (nx : Nat) (h r : PF) (s : Int → Int) (Q : PO → PY → Nat → PC → Prop), (Wp 132 68 [some (pR 178), some (pI l1)] [pI x1, pI x0] LY nx (h, r, s) Q ↔ (if x0 ≠ x1 then Wp 132 79 [some (pR 178), some (pI l1)] [] LY nx (h, r, s) Q else Wp 132 71 [some (pR 178), some (pI l1)] [] LY nx (h, r, s) Q))) ∧
  (∀ (l1 : Int) (nx : Nat) (h r : PF) (s : Int → Int) (Q : PO → PY → Nat → PC → Prop), (Wp 132 71 [some (pR 178), some (pI l1)] [] LY nx (h, r, s) Q ↔ Wp 132 72 [some (pR 178), some (pI l1)] [pR 178] LY nx (h, r, s) Q)) ∧
  (∀ (l1 : Int) (nx : Nat) (h r : PF) (s : Int → Int) (Q : PO → PY → Nat → PC → Prop), (Wp 132 72 [some (pR 178), some (pI l1)] [pR 178] LY nx (h, r, s) Q ↔ Wp 132 73 [some (pR 178), some (pI l1)] [pI 0, pR 178] LY nx (h, r, s) Q)) ∧
  (∀ (l1 : Int) (x1 : Int) (nx : Nat) (h r : PF) (s : Int → Int) (Q : PO → PY → Nat → PC → Prop), (Wp 132 73 [some (pR 178), some (pI l1)] [pI x1, pR 178] LY nx (h, r, s) Q ↔ Wp 132 76 [some (pR 178), some (pI l1)] [] LY nx (fup h 178 8 x1, r, s) Q)) ∧
  (∀ (l1 : Int) (nx : Nat) (h r : PF) (s : Int → Int) (Q : PO → PY → Nat → PC → Prop), (Wp 132 76 [some (pR 178), some (pI l1)] [] LY nx (h, r, s) Q ↔ Wp 132 324 [some (pR 178), some (pI l1)] [] LY nx (h, r, s) Q)) ∧
  (∀ (l1 : Int) (nx : Nat) (h r : PF) (s : Int → Int) (Q : PO → PY → Nat → PC → Prop), (Wp 132 79 [some (pR 178), some (pI l1)] [] LY nx (h, r, s) Q ↔ Wp 132 80 [some (pR 178), some (pI l1)] [pI l1] LY nx (h, r, s) Q)) ∧
  (∀ (l1 : Int) (x0 : Int) (nx : Nat) (h r : PF) (s : Int → Int) (Q : PO → PY → Nat → PC → Prop), (Wp 132 80 [some (pR 178), some (pI l1)] [pI x0] LY nx (h, r, s) Q ↔ Wp 132 82 [some (pR 178), some (pI l1)] [pI 97, pI x0] LY nx (h, r, s) Q)) ∧
  (∀ (l1 : Int) (x0 : Int) (x1 : Int) (nx : Nat) (h r : PF) (s : Int → Int) (Q : PO → PY → Nat → PC → Prop), (Wp 132 82 [some (pR 178), some (pI l1)] [pI x1, pI x0] LY nx (h, r, s) Q ↔ Wp 132 84 [some (pR 178), some (pI l1)] [pI 122, pI x1, pI x0] LY nx (h, r, s) Q)) ∧
  (∀ (l1 : Int) (x0 : Int) (x1 : Int) (x2 : Int) (nx : Nat) (h r : PF) (s : Int → Int) (Q : PO → PY → Nat → PC → Prop), (Wp 132 84 [some (pR 178), some (pI l1)] [pI x2, pI x1, pI x0] LY nx (h, r, s) Q ↔ Wp 127 0 [some (pI x0), some (pI x1), some (pI x2)] [] LY nx (h, r, s) (Kc 132 84 [some (pR 178), some (pI l1)] 87 [] Q))) ∧
  (∀ (l1 : Int) (x0 : Int) (nx : Nat) (h r : PF) (s : Int → Int) (Q : PO → PY → Nat → PC → Prop), (Wp 132 87 [some (pR 178), some (pI l1)] [pI x0] LY nx (h, r, s) Q ↔ (if x0 = 0 then Wp 132 189 [some (pR 178), some (pI l1)] [] LY nx (h, r, s) Q else Wp 132 90 [some (pR 178), some (pI l1)] [] LY nx (h, r, s) Q))) ∧
  (∀ (l1 : Int) (nx : Nat) (h r : PF) (s : Int → Int) (Q : PO → PY → Nat → PC → Prop), (Wp 132 91 [some (pR 178), some (pI l1)] [pR 178] LY nx (h, r, s) Q ↔ Wp 132 92 [some (pR 178), some (pI l1)] [pR 178, pR 178] LY nx (h, r, s) Q)) ∧
  (∀ (l1 : Int) (nx : Nat) (h r : PF) (s : Int → Int) (Q : PO → PY → Nat → PC → Prop), (Wp 132 92 [some (pR 178), some (pI l1)] [pR 178, pR 178] LY nx (h, r, s) Q ↔ Wp 132 95 [some (pR 178), some (pI l1)] [pI (h 178 7), pR 178] LY nx (h, r, s) Q)) ∧
  (∀ (l1 : Int) (x1 : Int) (nx : Nat) (h r : PF) (s : Int → Int) (Q : PO → PY → Nat → PC → Prop), (Wp 132 95 [some (pR 178), some (pI l1)] [pI x1, pR 178] LY nx (h, r, s) Q ↔ Wp 131 0 [some (pR 178), some (pI x1)] [] LY nx (h, r, s) (Kc 132 95 [some (pR 178), some (pI l1)] 98 [] Q))) ∧
  (∀ (l1 : Int) (x0 : Int) (nx : Nat) (h r : PF) (s : Int → Int) (Q : PO → PY → Nat → PC → Prop), (Wp 132 98 [some (pR 178), some (pI l1)] [pI x0] LY nx (h, r, s) Q ↔ Wp 132 100 [some (pR 178), some (pI l1)] [pI 97, pI x0] LY nx (h, r, s) Q)) ∧
  (∀ (l1 : Int) (x0 : Int) (x1 : Int) (nx : Nat) (h r : PF) (s : Int → Int) (Q : PO → PY → Nat → PC → Prop), (Wp 132 100 [some (pR 178), some (pI l1)] [pI x1, pI x0] LY nx (h, r, s) Q ↔ Wp 132 102 [some (pR 178), some (pI l1)] [pI 122, pI x1, pI x0] LY nx (h, r, s) Q)) ∧
  (∀ (l1 : Int) (x0 : Int) (x1 : Int) (x2 : Int) (nx : Nat) (h r : PF) (s : Int → Int) (Q : PO → PY → Nat → PC → Prop), (Wp 132 102 [some (pR 178), some (pI l1)] [pI x2, pI x1, pI x0] LY nx (h, r, s) Q ↔ Wp 127 0 [some (pI x0), some (pI x1), some (pI x2)] [] LY nx (h, r, s) (Kc 132 102 [some (pR 178), some (pI l1)] 105 [] Q))) ∧
  (∀ (l1 : Int) (x0 : Int) (nx : Nat) (h r : PF) (s : Int → Int) (Q : PO → PY → Nat → PC → Prop), (Wp 132 105 [some (pR 178), some (pI l1)] [pI x0] LY nx (h, r, s) Q ↔ (if x0 = 0 then Wp 132 163 [some (pR 178), some (pI l1)] [] LY nx (h, r, s) Q else Wp 132 108 [some (pR 178), some (pI l1)] [] LY nx (h, r, s) Q))) ∧
  (∀ (l1 : Int) (nx : Nat) (h r : PF) (s : Int → Int) (Q : PO → PY → Nat → PC → Prop), (Wp 132 108 [some (pR 178), some (pI l1)] [] LY nx (h, r, s) Q ↔ Wp 132 109 [some (pR 178), some (pI l1)] [pR 178] LY nx (h, r, s) Q)) ∧
  (∀ (l1 : Int) (nx : Nat) (h r : PF) (s : Int → Int) (Q : PO → PY → Nat → PC → Prop), (Wp 132 109 [some (pR 178), some (pI l1)] [pR 178] LY nx (h, r, s) Q ↔ Wp 132 110 [some (pR 178), some (pI l1)] [pR 178, pR 178] LY nx (h, r, s) Q)) ∧
  (∀ (l1 : Int) (nx : Nat) (h r : PF) (s : Int → Int) (Q : PO → PY → Nat → PC → Prop), (Wp 132 110 [some (pR 178), some (pI l1)] [pR 178, pR 178] LY nx (h, r, s) Q ↔ Wp 132 113 [some (pR 178), some (pI l1)] [pI (h 178 7), pR 178] LY nx (h, r, s) Q)) ∧
  (∀ (l1 : Int) (x1 : Int) (nx : Nat) (h r : PF) (s : Int → Int) (Q : PO → PY → Nat → PC → Prop), (Wp 132 113 [some (pR 178), some (pI l1)] [pI x1, pR 178] LY nx (h, r, s) Q ↔ Wp 132 114 [some (pR 178), some (pI l1)] [pR 178, pI x1, pR 178] LY nx (h, r, s) Q)) ∧
  (∀ (l1 : Int) (x1 : Int) (nx : Nat) (h r : PF) (s : Int → Int) (Q : PO → PY → Nat → PC → Prop), (Wp 132 114 [some (pR 178), some (pI l1)] [pR 178, pI x1, pR 178] LY nx (h, r, s) Q ↔ Wp 132 117 [some (pR 178), some (pI l1)] [pI (h 178 6), pI x1, pR 178] LY nx (h, r, s) Q)) ∧
  (∀ (l1 : Int) (x1 : Int) (x2 : Int) (nx : Nat) (h r : PF) (s : Int → Int) (Q : PO → PY → Nat → PC → Prop), (Wp 132 117 [some (pR 178), some (pI l1)] [pI x2, pI x1, pR 178] LY nx (h, r, s) Q ↔ Wp 132 118 [some (pR 178), some (pI l1)] [pI (w32 (x1 - x2)), pR 178] LY nx (h, r, s) Q)) ∧
  (∀ (l1 : Int) (x1 : Int) (nx : Nat) (h r : PF) (s : Int → Int) (Q : PO → PY → Nat → PC → Prop), (Wp 132 118 [some (pR 178), some (pI l1)] [pI x1, pR 178] LY nx (h, r, s) Q ↔ Wp 132 120 [some (pR 178), some (pI l1)] [pI 8, pI x1, pR 178] LY nx (h, r, s) Q)) ∧
  (∀ (l1 : Int) (x1 : Int) (x2 : Int) (nx : Nat) (h r : PF) (s : Int → Int) (Q : PO → PY → Nat → PC → Prop), (Wp 132 120 [some (pR 178), some (pI l1)] [pI x2, pI x1, pR 178] LY nx (h, r, s) Q ↔ (if x2 ≤ x1 then Wp 132 143 [some (pR 178), some (pI l1)] [pR 178] LY nx (h, r, s) Q else Wp 132 123 [some (pR 178), some (pI l1)] [pR 178] LY nx (h, r, s) Q))) :=
  ⟨fun  nx h r s Q  => o_aload_n (by decide +kernel : pcode 132 1 = some (10, 0, 0, 0, 0)) rfl,
  fun  nx h r s Q  => o_getI (by decide +kernel : pcode 132 2 = some (55, 1224, 8, 7, 84)) (by decide) (by decide +kernel),
  fun x1 nx h r s Q  => o_ivV (s1 := [pI x1]) (s2 := []) (o := 178) (by decide +kernel : pcode 132 5 = some (78, 131, 2, 1336, 87)) rfl (Nat.le_of_ble_eq_true rfl) (by decide) (by decide +kernel) rfl rfl rfl,
  fun x0 nx h r s Q  => o_bipush (by decide +kernel : pcode 132 8 = some (2, 0, 0, 0, 32)),
  fun x0 x1 nx h r s Q  => o_icmp_eq (by decide +kernel : pcode 132 10 = some (47, 26, 0, 0, 16)),
  fun  nx h r s Q  => o_aload_n (by decide +kernel : pcode 132 13 = some (10, 0, 0, 0, 0)) rfl,
  fun  nx h r s Q  => o_aload_n (by decide +kernel : pcode 132 14 = some (10, 0, 0, 0, 0)) rfl,
  fun  nx h r s Q  => o_getI (by decide +kernel : pcode 132 15 = some (55, 1224, 8, 7, 84)) (by decide) (by decide +kernel),
  fun x1 nx h r s Q  => o_ivV (s1 := [pI x1]) (s2 := []) (o := 178) (by decide +kernel : pcode 132 18 = some (78, 131, 2, 1336, 87)) rfl (Nat.le_of_ble_eq_true rfl) (by decide) (by decide +kernel) rfl rfl rfl,
  fun x0 nx h r s Q  => o_bipush (by decide +kernel : pcode 132 21 = some (2, 0, 0, 0, 10)),
  fun x0 x1 nx h r s Q  => o_icmp_ne (by decide +kernel : pcode 132 23 = some (48, 39, 0, 0, 16)),
  fun  nx h r s Q  => o_aload_n (by decide +kernel : pcode 132 26 = some (10, 0, 0, 0, 0)) rfl,
  fun  nx h r s Q  => o_dup (by decide +kernel : pcode 132 27 = some (38, 0, 0, 0, 0)) rfl,
  fun  nx h r s Q  => o_getI (by decide +kernel : pcode 132 28 = some (55, 1224, 8, 7, 84)) (by decide) (by decide +kernel),
  fun x1 nx h r s Q  => o_iconst (by decide +kernel : pcode 132 31 = some (1, 0, 0, 0, 1)),
  fun x1 x2 nx h r s Q  => o_iadd (by decide +kernel : pcode 132 32 = some (19, 0, 0, 0, 0)),
  fun x1 nx h r s Q  => o_putI (by decide +kernel : pcode 132 33 = some (58, 1224, 8, 7, 84)) (by decide) (by decide +kernel),
  fun  nx h r s Q  => o_goto (by decide +kernel : pcode 132 36 = some (53, 0, 0, 0, -36)),
  fun  nx h r s Q  => o_aload_n (by decide +kernel : pcode 132 39 = some (10, 0, 0, 0, 0)) rfl,
  fun  nx h r s Q  => o_aload_n (by decide +kernel : pcode 132 40 = some (10, 0, 0, 0, 0)) rfl,
  fun  nx h r s Q  => o_getI (by decide +kernel : pcode 132 41 = some (55, 1224, 8, 7, 84)) (by decide) (by decide +kernel),
  fun x1 nx h r s Q  => o_putI (by decide +kernel : pcode 132 44 = some (58, 1223, 8, 6, 91)) (by decide) (by decide +kernel),
  fun  nx h r s Q  => o_aload_n (by decide +kernel : pcode 132 47 = some (10, 0, 0, 0, 0)) rfl,
  fun  nx h r s Q  => o_iconst (by decide +kernel : pcode 132 48 = some (1, 0, 0, 0, 0)),
  fun x1 nx h r s Q  => o_putI (by decide +kernel : pcode 132 49 = some (58, 1226, 8, 9, 94)) (by decide) (by decide +kernel),
  fun  nx h r s Q  => o_aload_n (by decide +kernel : pcode 132 52 = some (10, 0, 0, 0, 0)) rfl,
  fun  nx h r s Q  => o_lconst (by decide +kernel : pcode 132 53 = some (4, 0, 0, 0, 0)),
  fun x1 nx h r s Q  => o_putJ (by decide +kernel : pcode 132 54 = some (60, 1227, 8, 10, 97)) (by decide) (by decide +kernel),
  fun  nx h r s Q  => o_aload_n (by decide +kernel : pcode 132 57 = some (10, 0, 0, 0, 0)) rfl,
  fun  nx h r s Q  => o_aload_n (by decide +kernel : pcode 132 58 = some (10, 0, 0, 0, 0)) rfl,
  fun  nx h r s Q  => o_getI (by decide +kernel : pcode 132 59 = some (55, 1224, 8, 7, 84)) (by decide) (by decide +kernel),
  fun x1 nx h r s Q  => o_ivV (s1 := [pI x1]) (s2 := []) (o := 178) (by decide +kernel : pcode 132 62 = some (78, 131, 2, 1336, 87)) rfl (Nat.le_of_ble_eq_true rfl) (by decide) (by decide +kernel) rfl rfl rfl,
  fun x0 nx h r s Q  => o_istore_n (by decide +kernel : pcode 132 65 = some (12, 1, 0, 0, 0)) rfl,
  fun l1 nx h r s Q  => o_iload_n (by decide +kernel : pcode 132 66 = some (6, 1, 0, 0, 0)) rfl,
  fun l1 x0 nx h r s Q  => o_iconst (by decide +kernel : pcode 132 67 = some (1, 0, 0, 0, -1)),
  fun l1 x0 x1 nx h r s Q  => o_icmp_ne (by decide +kernel : pcode 132 68 = some (48, 79, 0, 0, 11)),
  fun l1 nx h r s Q  => o_aload_n (by decide +kernel : pcode 132 71 = some (10, 0, 0, 0, 0)) rfl,
  fun l1 nx h r s Q  => o_iconst (by decide +kernel : pcode 132 72 = some (1, 0, 0, 0, 0)),
  fun l1 x1 nx h r s Q  => o_putI (by decide +kernel : pcode 132 73 = some (58, 1225, 8, 8, 101)) (by decide) (by decide +kernel),
  fun l1 nx h r s Q  => o_goto (by decide +kernel : pcode 132 76 = some (53, 324, 0, 0, 248)),
  fun l1 nx h r s Q  => o_iload_n (by decide +kernel : pcode 132 79 = some (6, 1, 0, 0, 0)) rfl,
  fun l1 x0 nx h r s Q  => o_bipush (by decide +kernel : pcode 132 80 = some (2, 0, 0, 0, 97)),
  fun l1 x0 x1 nx h r s Q  => o_bipush (by decide +kernel : pcode 132 82 = some (2, 0, 0, 0, 122)),
  fun l1 x0 x1 x2 nx h r s Q  => o_ivS (s1 := [pI x2, pI x1, pI x0]) (s2 := []) (by decide +kernel : pcode 132 84 = some (77, 127, 3, 1325, 104)) rfl (Nat.le_of_ble_eq_true rfl) rfl rfl rfl,
  fun l1 x0 nx h r s Q  => o_if_eq (by decide +kernel : pcode 132 87 = some (41, 189, 0, 0, 102)),
  fun l1 nx h r s Q  => o_aload_n (by decide +kernel : pcode 132 91 = some (10, 0, 0, 0, 0)) rfl,
  fun l1 nx h r s Q  => o_getI (by decide +kernel : pcode 132 92 = some (55, 1224, 8, 7, 84)) (by decide) (by decide +kernel),
  fun l1 x1 nx h r s Q  => o_ivV (s1 := [pI x1]) (s2 := []) (o := 178) (by decide +kernel : pcode 132 95 = some (78, 131, 2, 1336, 87)) rfl (Nat.le_of_ble_eq_true rfl) (by decide) (by decide +kernel) rfl rfl rfl,
  fun l1 x0 nx h r s Q  => o_bipush (by decide +kernel : pcode 132 98 = some (2, 0, 0, 0, 97)),
  fun l1 x0 x1 nx h r s Q  => o_bipush (by decide +kernel : pcode 132 100 = some (2, 0, 0, 0, 122)),
  fun l1 x0 x1 x2 nx h r s Q  => o_ivS (s1 := [pI x2, pI x1, pI x0]) (s2 := []) (by decide +kernel : pcode 132 102 = some (77, 127, 3, 1325, 104)) rfl (Nat.le_of_ble_eq_true rfl) rfl rfl rfl,
  fun l1 x0 nx h r s Q  => o_if_eq (by decide +kernel : pcode 132 105 = some (41, 163, 0, 0, 58)),
  fun l1 nx h r s Q  => o_aload_n (by decide +kernel : pcode 132 108 = some (10, 0, 0, 0, 0)) rfl,
  fun l1 nx h r s Q  => o_aload_n (by decide +kernel : pcode 132 109 = some (10, 0, 0, 0, 0)) rfl,
  fun l1 nx h r s Q  => o_getI (by decide +kernel : pcode 132 110 = some (55, 1224, 8, 7, 84)) (by decide) (by decide +kernel),
  fun l1 x1 nx h r s Q  => o_aload_n (by decide +kernel : pcode 132 113 = some (10, 0, 0, 0, 0)) rfl,
  fun l1 x1 nx h r s Q  => o_getI (by decide +kernel : pcode 132 114 = some (55, 1223, 8, 6, 91)) (by decide) (by decide +kernel),
  fun l1 x1 x2 nx h r s Q  => o_isub (by decide +kernel : pcode 132 117 = some (20, 0, 0, 0, 0)),
  fun l1 x1 nx h r s Q  => o_bipush (by decide +kernel : pcode 132 118 = some (2, 0, 0, 0, 8)),
  fun l1 x1 x2 nx h r s Q  => o_icmp_ge (by decide +kernel : pcode 132 120 = some (50, 143, 0, 0, 23))⟩
set_option maxHeartbeats 4000000 in
set_option maxRecDepth 10000 in
theorem st_X8_advance_1 :
  (∀ (l1 : Int) (nx : Nat) (h r : PF) (s : Int → Int) (Q : PO → PY → Nat → PC → Prop), (Wp 132 123 [some (pR 178), some (pI l1)] [pR 178] LY nx (h, r, s) Q ↔ Wp 132 124 [some (pR 178), some (pI l1)] [pR 178, pR 178] LY nx (h, r, s) Q)) ∧
  (∀ (l1 : Int) (nx : Nat) (h r : PF) (s : Int → Int) (Q : PO → PY → Nat → PC → Prop), (Wp 132 124 [some (pR 178), some (pI l1)] [pR 178, pR 178] LY nx (h, r, s) Q ↔ Wp 132 127 [some (pR 178), some (pI l1)] [pJ (h 178 10), pR 178] LY nx (h, r, s) Q)) ∧
  (∀ (l1 : Int) (x1 : Int) (nx : Nat) (h r : PF) (s : Int → Int) (Q : PO → PY → Nat → PC → Prop), (Wp 132 127 [some (pR 178), some (pI l1)] [pJ x1, pR 178] LY nx (h, r, s) Q ↔ Wp 132 129 [some (pR 178), some (pI l1)] [pI 8, pJ x1, pR 178] LY nx (h, r, s) Q)) ∧
  (∀ (l1 : Int) (x1 : Int) (x2 : Int) (nx : Nat) (h r : PF) (s : Int → Int) (Q : PO → PY → Nat → PC → Prop), (Wp 132 129 [some (pR 178), some (pI l1)] [pI x2, pJ x1, pR 178] LY nx (h, r, s) Q ↔ Wp 132 130 [some (pR 178), some (pI l1)] [pJ (plshl x1 x2), pR 178] LY nx (h, r, s) Q)) ∧
  (∀ (l1 : Int) (x1 : Int) (nx : Nat) (h r : PF) (s : Int → Int) (Q : PO → PY → Nat → PC → Prop), (Wp 132 130 [some (pR 178), some (pI l1)] [pJ x1, pR 178] LY nx (h, r, s) Q ↔ Wp 132 131 [some (pR 178), some (pI l1)] [pR 178, pJ x1, pR 178] LY nx (h, r, s) Q)) ∧
  (∀ (l1 : Int) (x1 : Int) (nx : Nat) (h r : PF) (s : Int → Int) (Q : PO → PY → Nat → PC → Prop), (Wp 132 131 [some (pR 178), some (pI l1)] [pR 178, pJ x1, pR 178] LY nx (h, r, s) Q ↔ Wp 132 132 [some (pR 178), some (pI l1)] [pR 178, pR 178, pJ x1, pR 178] LY nx (h, r, s) Q)) ∧
  (∀ (l1 : Int) (x1 : Int) (nx : Nat) (h r : PF) (s : Int → Int) (Q : PO → PY → Nat → PC → Prop), (Wp 132 132 [some (pR 178), some (pI l1)] [pR 178, pR 178, pJ x1, pR 178] LY nx (h, r, s) Q ↔ Wp 132 135 [some (pR 178), some (pI l1)] [pI (h 178 7), pR 178, pJ x1, pR 178] LY nx (h, r, s) Q)) ∧
  (∀ (l1 : Int) (x1 : Int) (x3 : Int) (nx : Nat) (h r : PF) (s : Int → Int) (Q : PO → PY → Nat → PC → Prop), (Wp 132 135 [some (pR 178), some (pI l1)] [pI x3, pR 178, pJ x1, pR 178] LY nx (h, r, s) Q ↔ Wp 131 0 [some (pR 178), some (pI x3)] [] LY nx (h, r, s) (Kc 132 135 [some (pR 178), some (pI l1)] 138 [pJ x1, pR 178] Q))) ∧
  (∀ (l1 : Int) (x1 : Int) (x2 : Int) (nx : Nat) (h r : PF) (s : Int → Int) (Q : PO → PY → Nat → PC → Prop), (Wp 132 138 [some (pR 178), some (pI l1)] [pI x2, pJ x1, pR 178] LY nx (h, r, s) Q ↔ Wp 132 139 [some (pR 178), some (pI l1)] [pJ x2, pJ x1, pR 178] LY nx (h, r, s) Q)) ∧
  (∀ (l1 : Int) (x1 : Int) (x2 : Int) (nx : Nat) (h r : PF) (s : Int → Int) (Q : PO → PY → Nat → PC → Prop), (Wp 132 139 [some (pR 178), some (pI l1)] [pJ x2, pJ x1, pR 178] LY nx (h, r, s) Q ↔ Wp 132 140 [some (pR 178), some (pI l1)] [pJ (plor x1 x2), pR 178] LY nx (h, r, s) Q)) ∧
  (∀ (l1 : Int) (x1 : Int) (nx : Nat) (h r : PF) (s : Int → Int) (Q : PO → PY → Nat → PC → Prop), (Wp 132 140 [some (pR 178), some (pI l1)] [pJ x1, pR 178] LY nx (h, r, s) Q ↔ Wp 132 147 [some (pR 178), some (pI l1)] [pJ x1, pR 178] LY nx (h, r, s) Q)) ∧
  (∀ (l1 : Int) (nx : Nat) (h r : PF) (s : Int → Int) (Q : PO → PY → Nat → PC → Prop), (Wp 132 143 [some (pR 178), some (pI l1)] [pR 178] LY nx (h, r, s) Q ↔ Wp 132 144 [some (pR 178), some (pI l1)] [pR 178, pR 178] LY nx (h, r, s) Q)) ∧
  (∀ (l1 : Int) (nx : Nat) (h r : PF) (s : Int → Int) (Q : PO → PY → Nat → PC → Prop), (Wp 132 144 [some (pR 178), some (pI l1)] [pR 178, pR 178] LY nx (h, r, s) Q ↔ Wp 132 147 [some (pR 178), some (pI l1)] [pJ (h 178 10), pR 178] LY nx (h, r, s) Q)) ∧
  (∀ (l1 : Int) (x1 : Int) (nx : Nat) (h r : PF) (s : Int → Int) (Q : PO → PY → Nat → PC → Prop), (Wp 132 147 [some (pR 178), some (pI l1)] [pJ x1, pR 178] LY nx (h, r, s) Q ↔ Wp 132 150 [some (pR 178), some (pI l1)] [] LY nx (fup h 178 10 x1, r, s) Q)) ∧
  (∀ (l1 : Int) (nx : Nat) (h r : PF) (s : Int → Int) (Q : PO → PY → Nat → PC → Prop), (Wp 132 150 [some (pR 178), some (pI l1)] [] LY nx (h, r, s) Q ↔ Wp 132 151 [some (pR 178), some (pI l1)] [pR 178] LY nx (h, r, s) Q)) ∧
  (∀ (l1 : Int) (nx : Nat) (h r : PF) (s : Int → Int) (Q : PO → PY → Nat → PC → Prop), (Wp 132 151 [some (pR 178), some (pI l1)] [pR 178] LY nx (h, r, s) Q ↔ Wp 132 152 [some (pR 178), some (pI l1)] [pR 178, pR 178] LY nx (h, r, s) Q)) ∧
  (∀ (l1 : Int) (nx : Nat) (h r : PF) (s : Int → Int) (Q : PO → PY → Nat → PC → Prop), (Wp 132 152 [some (pR 178), some (pI l1)] [pR 178, pR 178] LY nx (h, r, s) Q ↔ Wp 132 155 [some (pR 178), some (pI l1)] [pI (h 178 7), pR 178] LY nx (h, r, s) Q)) ∧
  (∀ (l1 : Int) (x1 : Int) (nx : Nat) (h r : PF) (s : Int → Int) (Q : PO → PY → Nat → PC → Prop), (Wp 132 155 [some (pR 178), some (pI l1)] [pI x1, pR 178] LY nx (h, r, s) Q ↔ Wp 132 156 [some (pR 178), some (pI l1)] [pI 1, pI x1, pR 178] LY nx (h, r, s) Q)) ∧
  (∀ (l1 : Int) (x1 : Int) (x2 : Int) (nx : Nat) (h r : PF) (s : Int → Int) (Q : PO → PY → Nat → PC → Prop), (Wp 132 156 [some (pR 178), some (pI l1)] [pI x2, pI x1, pR 178] LY nx (h, r, s) Q ↔ Wp 132 157 [some (pR 178), some (pI l1)] [pI (w32 (x1 + x2)), pR 178] LY nx (h, r, s) Q)) ∧
  (∀ (l1 : Int) (x1 : Int) (nx : Nat) (h r : PF) (s : Int → Int) (Q : PO → PY → Nat → PC → Prop), (Wp 132 157 [some (pR 178), some (pI l1)] [pI x1, pR 178] LY nx (h, r, s) Q ↔ Wp 132 160 [some (pR 178), some (pI l1)] [] LY nx (fup h 178 7 x1, r, s) Q)) ∧
  (∀ (l1 : Int) (nx : Nat) (h r : PF) (s : Int → Int) (Q : PO → PY → Nat → PC → Prop), (Wp 132 160 [some (pR 178), some (pI l1)] [] LY nx (h, r, s) Q ↔ Wp 132 90 [some (pR 178), some (pI l1)] [] LY nx (h, r, s) Q)) ∧
  (∀ (l1 : Int) (nx : Nat) (h r : PF) (s : Int → Int) (Q : PO → PY → Nat → PC → Prop), (Wp 132 163 [some (pR 178), some (pI l1)] [] LY nx (h, r, s) Q ↔ Wp 132 164 [some (pR 178), some (pI l1)] [pR 178] LY nx (h, r, s) Q)) ∧
  (∀ (l1 : Int) (nx : Nat) (h r : PF) (s : Int → Int) (Q : PO → PY → Nat → PC → Prop), (Wp 132 164 [some (pR 178), some (pI l1)] [pR 178] LY nx (h, r, s) Q ↔ Wp 132 165 [some (pR 178), some (pI l1)] [pR 178, pR 178] LY nx (h, r, s) Q)) ∧
  (∀ (l1 : Int) (nx : Nat) (h r : PF) (s : Int → Int) (Q : PO → PY → Nat → PC → Prop), (Wp 132 165 [some (pR 178), some (pI l1)] [pR 178, pR 178] LY nx (h, r, s) Q ↔ Wp 132 168 [some (pR 178), some (pI l1)] [pI (h 178 7), pR 178] LY nx (h, r, s) Q)) ∧
  (∀ (l1 : Int) (x1 : Int) (nx : Nat) (h r : PF) (s : Int → Int) (Q : PO → PY → Nat → PC → Prop), (Wp 132 168 [some (pR 178), some (pI l1)] [pI x1, pR 178] LY nx (h, r, s) Q ↔ Wp 132 169 [some (pR 178), some (pI l1)] [pR 178, pI x1, pR 178] LY nx (h, r, s) Q)) ∧
  (∀ (l1 : Int) (x1 : Int) (nx : Nat) (h r : PF) (s : Int → Int) (Q : PO → PY → Nat → PC → Prop), (Wp 132 169 [some (pR 178), some (pI l1)] [pR 178, pI x1, pR 178] LY nx (h, r, s) Q ↔ Wp 132 172 [some (pR 178), some (pI l1)] [pI (h 178 6), pI x1, pR 178] LY nx (h, r, s) Q)) ∧
  (∀ (l1 : Int) (x1 : Int) (x2 : Int) (nx : Nat) (h r : PF) (s : Int → Int) (Q : PO → PY → Nat → PC → Prop), (Wp 132 172 [some (pR 178), some (pI l1)] [pI x2, pI x1, pR 178] LY nx (h, r, s) Q ↔ Wp 132 173 [some (pR 178), some (pI l1)] [pI (w32 (x1 - x2)), pR 178] LY nx (h, r, s) Q)) ∧
  (∀ (l1 : Int) (x1 : Int) (nx : Nat) (h r : PF) (s : Int → Int) (Q : PO → PY → Nat → PC → Prop), (Wp 132 173 [some (pR 178), some (pI l1)] [pI x1, pR 178] LY nx (h, r, s) Q ↔ Wp 132 175 [some (pR 178), some (pI l1)] [pI 8, pI x1, pR 178] LY nx (h, r, s) Q)) ∧
  (∀ (l1 : Int) (x1 : Int) (x2 : Int) (nx : Nat) (h r : PF) (s : Int → Int) (Q : PO → PY → Nat → PC → Prop), (Wp 132 175 [some (pR 178), some (pI l1)] [pI x2, pI x1, pR 178] LY nx (h, r, s) Q ↔ (if x1 ≤ x2 then Wp 132 182 [some (pR 178), some (pI l1)] [pR 178] LY nx (h, r, s) Q else Wp 132 178 [some (pR 178), some (pI l1)] [pR 178] LY nx (h, r, s) Q))) ∧
  (∀ (l1 : Int) (nx : Nat) (h r : PF) (s : Int → Int) (Q : PO → PY → Nat → PC → Prop), (Wp 132 178 [some (pR 178), some (pI l1)] [pR 178] LY nx (h, r, s) Q ↔ Wp 132 179 [some (pR 178), some (pI l1)] [pI 4, pR 178] LY nx (h, r, s) Q)) ∧
  (∀ (l1 : Int) (x1 : Int) (nx : Nat) (h r : PF) (s : Int → Int) (Q : PO → PY → Nat → PC → Prop), (Wp 132 179 [some (pR 178), some (pI l1)] [pI x1, pR 178] LY nx (h, r, s) Q ↔ Wp 132 183 [some (pR 178), some (pI l1)] [pI x1, pR 178] LY nx (h, r, s) Q)) ∧
  (∀ (l1 : Int) (nx : Nat) (h r : PF) (s : Int → Int) (Q : PO → PY → Nat → PC → Prop), (Wp 132 182 [some (pR 178), some (pI l1)] [pR 178] LY nx (h, r, s) Q ↔ Wp 132 183 [some (pR 178), some (pI l1)] [pI 1, pR 178] LY nx (h, r, s) Q)) ∧
  (∀ (l1 : Int) (x1 : Int) (nx : Nat) (h r : PF) (s : Int → Int) (Q : PO → PY → Nat → PC → Prop), (Wp 132 183 [some (pR 178), some (pI l1)] [pI x1, pR 178] LY nx (h, r, s) Q ↔ Wp 132 186 [some (pR 178), some (pI l1)] [] LY nx (fup h 178 8 x1, r, s) Q)) ∧
  (∀ (l1 : Int) (nx : Nat) (h r : PF) (s : Int → Int) (Q : PO → PY → Nat → PC → Prop), (Wp 132 186 [some (pR 178), some (pI l1)] [] LY nx (h, r, s) Q ↔ Wp 132 324 [some (pR 178), some (pI l1)] [] LY nx (h, r, s) Q)) ∧
  (∀ (l1 : Int) (nx : Nat) (h r : PF) (s : Int → Int) (Q : PO → PY → Nat → PC → Prop), (Wp 132 189 [some (pR 178), some (pI l1)] [] LY nx (h, r, s) Q ↔ Wp 132 190 [some (pR 178), some (pI l1)] [pI l1] LY nx (h, r, s) Q)) ∧
  (∀ (l1 : Int) (x0 : Int) (nx : Nat) (h r : PF) (s : Int → Int) (Q : PO → PY → Nat → PC → Prop), (Wp 132 190 [some (pR 178), some (pI l1)] [pI x0] LY nx (h, r, s) Q ↔ Wp 132 192 [some (pR 178), some (pI l1)] [pI 48, pI x0] LY nx (h, r, s) Q)) ∧
  (∀ (l1 : Int) (x0 : Int) (x1 : Int) (nx : Nat) (h r : PF) (s : Int → Int) (Q : PO → PY → Nat → PC → Prop), (Wp 132 192 [some (pR 178), some (pI l1)] [pI x1, pI x0] LY nx (h, r, s) Q ↔ Wp 132 194 [some (pR 178), some (pI l1)] [pI 57, pI x1, pI x0] LY nx (h, r, s) Q)) ∧
  (∀ (l1 : Int) (x0 : Int) (x1 : Int) (x2 : Int) (nx : Nat) (h r : PF) (s : Int → Int) (Q : PO → PY → Nat → PC → Prop), (Wp 132 194 [some (pR 178), some (pI l1)] [pI x2, pI x1, pI x0] LY nx (h, r, s) Q ↔ Wp 127 0 [some (pI x0), some (pI x1), some (pI x2)] [] LY nx (h, r, s) (Kc 132 194 [some (pR 178), some (pI l1)] 197 [] Q))) ∧
  (∀ (l1 : Int) (x0 : Int) (nx : Nat) (h r : PF) (s : Int → Int) (Q : PO → PY → Nat → PC → Prop), (Wp 132 197 [some (pR 178), some (pI l1)] [pI x0] LY nx (h, r, s) Q ↔ (if x0 = 0 then Wp 132 299 [some (pR 178), some (pI l1)] [] LY nx (h, r, s) Q else Wp 132 200 [some (pR 178), some (pI l1)] [] LY nx (h, r, s) Q))) ∧
  (∀ (l1 : Int) (nx : Nat) (h r : PF) (s : Int → Int) (Q : PO → PY → Nat → PC → Prop), (Wp 132 201 [some (pR 178), some (pI l1)] [pR 178] LY nx (h, r, s) Q ↔ Wp 132 202 [some (pR 178), some (pI l1)] [pR 178, pR 178] LY nx (h, r, s) Q)) ∧
  (∀ (l1 : Int) (nx : Nat) (h r : PF) (s : Int → Int) (Q : PO → PY → Nat → PC → Prop), (Wp 132 202 [some (pR 178), some (pI l1)] [pR 178, pR 178] LY nx (h, r, s) Q ↔ Wp 132 205 [some (pR 178), some (pI l1)] [pI (h 178 7), pR 178] LY nx (h, r, s) Q)) ∧
  (∀ (l1 : Int) (x1 : Int) (nx : Nat) (h r : PF) (s : Int → Int) (Q : PO → PY → Nat → PC → Prop), (Wp 132 205 [some (pR 178), some (pI l1)] [pI x1, pR 178] LY nx (h, r, s) Q ↔ Wp 131 0 [some (pR 178), some (pI x1)] [] LY nx (h, r, s) (Kc 132 205 [some (pR 178), some (pI l1)] 208 [] Q))) ∧
  (∀ (l1 : Int) (x0 : Int) (nx : Nat) (h r : PF) (s : Int → Int) (Q : PO → PY → Nat → PC → Prop), (Wp 132 208 [some (pR 178), some (pI l1)] [pI x0] LY nx (h, r, s) Q ↔ Wp 132 210 [some (pR 178), some (pI l1)] [pI 48, pI x0] LY nx (h, r, s) Q)) ∧
  (∀ (l1 : Int) (x0 : Int) (x1 : Int) (nx : Nat) (h r : PF) (s : Int → Int) (Q : PO → PY → Nat → PC → Prop), (Wp 132 210 [some (pR 178), some (pI l1)] [pI x1, pI x0] LY nx (h, r, s) Q ↔ Wp 132 212 [some (pR 178), some (pI l1)] [pI 57, pI x1, pI x0] LY nx (h, r, s) Q)) ∧
  (∀ (l1 : Int) (x0 : Int) (x1 : Int) (x2 : Int) (nx : Nat) (h r : PF) (s : Int → Int) (Q : PO → PY → Nat → PC → Prop), (Wp 132 212 [some (pR 178), some (pI l1)] [pI x2, pI x1, pI x0] LY nx (h, r, s) Q ↔ Wp 127 0 [some (pI x0), some (pI x1), some (pI x2)] [] LY nx (h, r, s) (Kc 132 212 [some (pR 178), some (pI l1)] 215 [] Q))) ∧
  (∀ (l1 : Int) (x0 : Int) (nx : Nat) (h r : PF) (s : Int → Int) (Q : PO → PY → Nat → PC → Prop), (Wp 132 215 [some (pR 178), some (pI l1)] [pI x0] LY nx (h, r, s) Q ↔ (if x0 = 0 then Wp 132 274 [some (pR 178), some (pI l1)] [] LY nx (h, r, s) Q else Wp 132 218 [some (pR 178), some (pI l1)] [] LY nx (h, r, s) Q))) ∧
  (∀ (l1 : Int) (nx : Nat) (h r : PF) (s : Int → Int) (Q : PO → PY → Nat → PC → Prop), (Wp 132 218 [some (pR 178), some (pI l1)] [] LY nx (h, r, s) Q ↔ Wp 132 219 [some (pR 178), some (pI l1)] [pR 178] LY nx (h, r, s) Q)) ∧
  (∀ (l1 : Int) (nx : Nat) (h r : PF) (s : Int → Int) (Q : PO → PY → Nat → PC → Prop), (Wp 132 219 [some (pR 178), some (pI l1)] [pR 178] LY nx (h, r, s) Q ↔ Wp 132 220 [some (pR 178), some (pI l1)] [pR 178, pR 178] LY nx (h, r, s) Q)) ∧
  (∀ (l1 : Int) (nx : Nat) (h r : PF) (s : Int → Int) (Q : PO → PY → Nat → PC → Prop), (Wp 132 220 [some (pR 178), some (pI l1)] [pR 178, pR 178] LY nx (h, r, s) Q ↔ Wp 132 223 [some (pR 178), some (pI l1)] [pI (h 178 7), pR 178] LY nx (h, r, s) Q)) ∧
  (∀ (l1 : Int) (x1 : Int) (nx : Nat) (h r : PF) (s : Int → Int) (Q : PO → PY → Nat → PC → Prop), (Wp 132 223 [some (pR 178), some (pI l1)] [pI x1, pR 178] LY nx (h, r, s) Q ↔ Wp 132 224 [some (pR 178), some (pI l1)] [pR 178, pI x1, pR 178] LY nx (h, r, s) Q)) ∧
  (∀ (l1 : Int) (x1 : Int) (nx : Nat) (h r : PF) (s : Int → Int) (Q : PO → PY → Nat → PC → Prop), (Wp 132 224 [some (pR 178), some (pI l1)] [pR 178, pI x1, pR 178] LY nx (h, r, s) Q ↔ Wp 132 227 [some (pR 178), some (pI l1)] [pI (h 178 6), pI x1, pR 178] LY nx (h, r, s) Q)) ∧
  (∀ (l1 : Int) (x1 : Int) (x2 : Int) (nx : Nat) (h r : PF) (s : Int → Int) (Q : PO → PY → Nat → PC → Prop), (Wp 132 227 [some (pR 178), some (pI l1)] [pI x2, pI x1, pR 178] LY nx (h, r, s) Q ↔ Wp 132 228 [some (pR 178), some (pI l1)] [pI (w32 (x1 - x2)), pR 178] LY nx (h, r, s) Q)) ∧
  (∀ (l1 : Int) (x1 : Int) (nx : Nat) (h r : PF) (s : Int → Int) (Q : PO → PY → Nat → PC → Prop), (Wp 132 228 [some (pR 178), some (pI l1)] [pI x1, pR 178] LY nx (h, r, s) Q ↔ Wp 132 229 [some (pR 178), some (pI l1)] [pI 3, pI x1, pR 178] LY nx (h, r, s) Q)) ∧
  (∀ (l1 : Int) (x1 : Int) (x2 : Int) (nx : Nat) (h r : PF) (s : Int → Int) (Q : PO → PY → Nat → PC → Prop), (Wp 132 229 [some (pR 178), some (pI l1)] [pI x2, pI x1, pR 178] LY nx (h, r, s) Q ↔ (if x2 ≤ x1 then Wp 132 254 [some (pR 178), some (pI l1)] [pR 178] LY nx (h, r, s) Q else Wp 132 232 [some (pR 178), some (pI l1)] [pR 178] LY nx (h, r, s) Q))) ∧
  (∀ (l1 : Int) (nx : Nat) (h r : PF) (s : Int → Int) (Q : PO → PY → Nat → PC → Prop), (Wp 132 232 [some (pR 178), some (pI l1)] [pR 178] LY nx (h, r, s) Q ↔ Wp 132 234 [some (pR 178), some (pI l1)] [pI 10, pR 178] LY nx (h, r, s) Q)) ∧
  (∀ (l1 : Int) (x1 : Int) (nx : Nat) (h r : PF) (s : Int → Int) (Q : PO → PY → Nat → PC → Prop), (Wp 132 234 [some (pR 178), some (pI l1)] [pI x1, pR 178] LY nx (h, r, s) Q ↔ Wp 132 235 [some (pR 178), some (pI l1)] [pR 178, pI x1, pR 178] LY nx (h, r, s) Q)) ∧
  (∀ (l1 : Int) (x1 : Int) (nx : Nat) (h r : PF) (s : Int → Int) (Q : PO → PY → Nat → PC → Prop), (Wp 132 235 [some (pR 178), some (pI l1)] [pR 178, pI x1, pR 178] LY nx (h, r, s) Q ↔ Wp 132 238 [some (pR 178), some (pI l1)] [pI (h 178 9), pI x1, pR 178] LY nx (h, r, s) Q)) ∧
  (∀ (l1 : Int) (x1 : Int) (x2 : Int) (nx : Nat) (h r : PF) (s : Int → Int) (Q : PO → PY → Nat → PC → Prop), (Wp 132 238 [some (pR 178), some (pI l1)] [pI x2, pI x1, pR 178] LY nx (h, r, s) Q ↔ Wp 132 239 [some (pR 178), some (pI l1)] [pI (w32 (x1 * x2)), pR 178] LY nx (h, r, s) Q)) ∧
  (∀ (l1 : Int) (x1 : Int) (nx : Nat) (h r : PF) (s : Int → Int) (Q : PO → PY → Nat → PC → Prop), (Wp 132 239 [some (pR 178), some (pI l1)] [pI x1, pR 178] LY nx (h, r, s) Q ↔ Wp 132 240 [some (pR 178), some (pI l1)] [pR 178, pI x1, pR 178] LY nx (h, r, s) Q)) ∧
  (∀ (l1 : Int) (x1 : Int) (nx : Nat) (h r : PF) (s : Int → Int) (Q : PO → PY → Nat → PC → Prop), (Wp 132 240 [some (pR 178), some (pI l1)] [pR 178, pI x1, pR 178] LY nx (h, r, s) Q ↔ Wp 132 241 [some (pR 178), some (pI l1)] [pR 178, pR 178, pI x1, pR 178] LY nx (h, r, s) Q)) :=
  ⟨fun l1 nx h r s Q  => o_aload_n (by decide +kernel : pcode 132 123 = some (10, 0, 0, 0, 0)) rfl,
  fun l1 nx h r s Q  => o_getJ (by decide +kernel : pcode 132 124 = some (56, 1227, 8, 10, 97)) (by decide) (by decide +kernel),
  fun l1 x1 nx h r s Q  => o_bipush (by decide +kernel : pcode 132 127 = some (2, 0, 0, 0, 8)),
  fun l1 x1 x2 nx h r s Q  => o_lshl (by decide +kernel : pcode 132 129 = some (33, 0, 0, 0, 0)),
  fun l1 x1 nx h r s Q  => o_aload_n (by decide +kernel : pcode 132 130 = some (10, 0, 0, 0, 0)) rfl,
  fun l1 x1 nx h r s Q  => o_aload_n (by decide +kernel : pcode 132 131 = some (10, 0, 0, 0, 0)) rfl,
  fun l1 x1 nx h r s Q  => o_getI (by decide +kernel : pcode 132 132 = some (55, 1224, 8, 7, 84)) (by decide) (by decide +kernel),
  fun l1 x1 x3 nx h r s Q  => o_ivV (s1 := [pI x3]) (s2 := [pJ x1, pR 178]) (o := 178) (by decide +kernel : pcode 132 135 = some (78, 131, 2, 1336, 87)) rfl (Nat.le_of_ble_eq_true rfl) (by decide) (by decide +kernel) rfl rfl rfl,
  fun l1 x1 x2 nx h r s Q  => o_i2l (by decide +kernel : pcode 132 138 = some (35, 0, 0, 0, 0)),
  fun l1 x1 x2 nx h r s Q  => o_lor (by decide +kernel : pcode 132 139 = some (32, 0, 0, 0, 0)),
  fun l1 x1 nx h r s Q  => o_goto (by decide +kernel : pcode 132 140 = some (53, 147, 0, 0, 7)),
  fun l1 nx h r s Q  => o_aload_n (by decide +kernel : pcode 132 143 = some (10, 0, 0, 0, 0)) rfl,
  fun l1 nx h r s Q  => o_getJ (by decide +kernel : pcode 132 144 = some (56, 1227, 8, 10, 97)) (by decide) (by decide +kernel),
  fun l1 x1 nx h r s Q  => o_putJ (by decide +kernel : pcode 132 147 = some (60, 1227, 8, 10, 97)) (by decide) (by decide +kernel),
  fun l1 nx h r s Q  => o_aload_n (by decide +kernel : pcode 132 150 = some (10, 0, 0, 0, 0)) rfl,
  fun l1 nx h r s Q  => o_dup (by decide +kernel : pcode 132 151 = some (38, 0, 0, 0, 0)) rfl,
  fun l1 nx h r s Q  => o_getI (by decide +kernel : pcode 132 152 = some (55, 1224, 8, 7, 84)) (by decide) (by decide +kernel),
  fun l1 x1 nx h r s Q  => o_iconst (by decide +kernel : pcode 132 155 = some (1, 0, 0, 0, 1)),
  fun l1 x1 x2 nx h r s Q  => o_iadd (by decide +kernel : pcode 132 156 = some (19, 0, 0, 0, 0)),
  fun l1 x1 nx h r s Q  => o_putI (by decide +kernel : pcode 132 157 = some (58, 1224, 8, 7, 84)) (by decide) (by decide +kernel),
  fun l1 nx h r s Q  => o_goto (by decide +kernel : pcode 132 160 = some (53, 90, 0, 0, -70)),
  fun l1 nx h r s Q  => o_aload_n (by decide +kernel : pcode 132 163 = some (10, 0, 0, 0, 0)) rfl,
  fun l1 nx h r s Q  => o_aload_n (by decide +kernel : pcode 132 164 = some (10, 0, 0, 0, 0)) rfl,
  fun l1 nx h r s Q  => o_getI (by decide +kernel : pcode 132 165 = some (55, 1224, 8, 7, 84)) (by decide) (by decide +kernel),
  fun l1 x1 nx h r s Q  => o_aload_n (by decide +kernel : pcode 132 168 = some (10, 0, 0, 0, 0)) rfl,
  fun l1 x1 nx h r s Q  => o_getI (by decide +kernel : pcode 132 169 = some (55, 1223, 8, 6, 91)) (by decide) (by decide +kernel),
  fun l1 x1 x2 nx h r s Q  => o_isub (by decide +kernel : pcode 132 172 = some (20, 0, 0, 0, 0)),
  fun l1 x1 nx h r s Q  => o_bipush (by decide +kernel : pcode 132 173 = some (2, 0, 0, 0, 8)),
  fun l1 x1 x2 nx h r s Q  => o_icmp_le (by decide +kernel : pcode 132 175 = some (52, 182, 0, 0, 7)),
  fun l1 nx h r s Q  => o_iconst (by decide +kernel : pcode 132 178 = some (1, 0, 0, 0, 4)),
  fun l1 x1 nx h r s Q  => o_goto (by decide +kernel : pcode 132 179 = some (53, 183, 0, 0, 4)),
  fun l1 nx h r s Q  => o_iconst (by decide +kernel : pcode 132 182 = some (1, 0, 0, 0, 1)),
  fun l1 x1 nx h r s Q  => o_putI (by decide +kernel : pcode 132 183 = some (58, 1225, 8, 8, 101)) (by decide) (by decide +kernel),
  fun l1 nx h r s Q  => o_goto (by decide +kernel : pcode 132 186 = some (53, 324, 0, 0, 138)),
  fun l1 nx h r s Q  => o_iload_n (by decide +kernel : pcode 132 189 = some (6, 1, 0, 0, 0)) rfl,
  fun l1 x0 nx h r s Q  => o_bipush (by decide +kernel : pcode 132 190 = some (2, 0, 0, 0, 48)),
  fun l1 x0 x1 nx h r s Q  => o_bipush (by decide +kernel : pcode 132 192 = some (2, 0, 0, 0, 57)),
  fun l1 x0 x1 x2 nx h r s Q  => o_ivS (s1 := [pI x2, pI x1, pI x0]) (s2 := []) (by decide +kernel : pcode 132 194 = some (77, 127, 3, 1325, 104)) rfl (Nat.le_of_ble_eq_true rfl) rfl rfl rfl,
  fun l1 x0 nx h r s Q  => o_if_eq (by decide +kernel : pcode 132 197 = some (41, 299, 0, 0, 102)),
  fun l1 nx h r s Q  => o_aload_n (by decide +kernel : pcode 132 201 = some (10, 0, 0, 0, 0)) rfl,
  fun l1 nx h r s Q  => o_getI (by decide +kernel : pcode 132 202 = some (55, 1224, 8, 7, 84)) (by decide) (by decide +kernel),
  fun l1 x1 nx h r s Q  => o_ivV (s1 := [pI x1]) (s2 := []) (o := 178) (by decide +kernel : pcode 132 205 = some (78, 131, 2, 1336, 87)) rfl (Nat.le_of_ble_eq_true rfl) (by decide) (by decide +kernel) rfl rfl rfl,
  fun l1 x0 nx h r s Q  => o_bipush (by decide +kernel : pcode 132 208 = some (2, 0, 0, 0, 48)),
  fun l1 x0 x1 nx h r s Q  => o_bipush (by decide +kernel : pcode 132 210 = some (2, 0, 0, 0, 57)),
  fun l1 x0 x1 x2 nx h r s Q  => o_ivS (s1 := [pI x2, pI x1, pI x0]) (s2 := []) (by decide +kernel : pcode 132 212 = some (77, 127, 3, 1325, 104)) rfl (Nat.le_of_ble_eq_true rfl) rfl rfl rfl,
  fun l1 x0 nx h r s Q  => o_if_eq (by decide +kernel : pcode 132 215 = some (41, 274, 0, 0, 59)),
  fun l1 nx h r s Q  => o_aload_n (by decide +kernel : pcode 132 218 = some (10, 0, 0, 0, 0)) rfl,
  fun l1 nx h r s Q  => o_aload_n (by decide +kernel : pcode 132 219 = some (10, 0, 0, 0, 0)) rfl,
  fun l1 nx h r s Q  => o_getI (by decide +kernel : pcode 132 220 = some (55, 1224, 8, 7, 84)) (by decide) (by decide +kernel),
  fun l1 x1 nx h r s Q  => o_aload_n (by decide +kernel : pcode 132 223 = some (10, 0, 0, 0, 0)) rfl,
  fun l1 x1 nx h r s Q  => o_getI (by decide +kernel : pcode 132 224 = some (55, 1223, 8, 6, 91)) (by decide) (by decide +kernel),
  fun l1 x1 x2 nx h r s Q  => o_isub (by decide +kernel : pcode 132 227 = some (20, 0, 0, 0, 0)),
  fun l1 x1 nx h r s Q  => o_iconst (by decide +kernel : pcode 132 228 = some (1, 0, 0, 0, 3)),
  fun l1 x1 x2 nx h r s Q  => o_icmp_ge (by decide +kernel : pcode 132 229 = some (50, 254, 0, 0, 25)),
  fun l1 nx h r s Q  => o_bipush (by decide +kernel : pcode 132 232 = some (2, 0, 0, 0, 10)),
  fun l1 x1 nx h r s Q  => o_aload_n (by decide +kernel : pcode 132 234 = some (10, 0, 0, 0, 0)) rfl,
  fun l1 x1 nx h r s Q  => o_getI (by decide +kernel : pcode 132 235 = some (55, 1226, 8, 9, 94)) (by decide) (by decide +kernel),
  fun l1 x1 x2 nx h r s Q  => o_imul (by decide +kernel : pcode 132 238 = some (21, 0, 0, 0, 0)),
  fun l1 x1 nx h r s Q  => o_aload_n (by decide +kernel : pcode 132 239 = some (10, 0, 0, 0, 0)) rfl,
  fun l1 x1 nx h r s Q  => o_aload_n (by decide +kernel : pcode 132 240 = some (10, 0, 0, 0, 0)) rfl⟩
set_option maxHeartbeats 4000000 in
set_option maxRecDepth 10000 in
theorem st_X8_advance_2 :
  (∀ (l1 : Int) (x1 : Int) (nx : Nat) (h r : PF) (s : Int → Int) (Q : PO → PY → Nat → PC → Prop), (Wp 132 241 [some (pR 178), some (pI l1)] [pR 178, pR 178, pI x1, pR 178] LY nx (h, r, s) Q ↔ Wp 132 244 [some (pR 178), some (pI l1)] [pI (h 178 7), pR 178, pI x1, pR 178] LY nx (h, r, s) Q)) ∧
  (∀ (l1 : Int) (x1 : Int) (x3 : Int) (nx : Nat) (h r : PF) (s : Int → Int) (Q : PO → PY → Nat → PC → Prop), (Wp 132 244 [some (pR 178), some (pI l1)] [pI x3, pR 178, pI x1, pR 178] LY nx (h, r, s) Q ↔ Wp 131 0 [some (pR 178), some (pI x3)] [] LY nx (h, r, s) (Kc 132 244 [some (pR 178), some (pI l1)] 247 [pI x1, pR 178] Q))) ∧
  (∀ (l1 : Int) (x1 : Int) (x2 : Int) (nx : Nat) (h r : PF) (s : Int → Int) (Q : PO → PY → Nat → PC → Prop), (Wp 132 247 [some (pR 178), some (pI l1)] [pI x2, pI x1, pR 178] LY nx (h, r, s) Q ↔ Wp 132 248 [some (pR 178), some (pI l1)] [pI (w32 (x1 + x2)), pR 178] LY nx (h, r, s) Q)) ∧
  (∀ (l1 : Int) (x1 : Int) (nx : Nat) (h r : PF) (s : Int → Int) (Q : PO → PY → Nat → PC → Prop), (Wp 132 248 [some (pR 178), some (pI l1)] [pI x1, pR 178] LY nx (h, r, s) Q ↔ Wp 132 250 [some (pR 178), some (pI l1)] [pI 48, pI x1, pR 178] LY nx (h, r, s) Q)) ∧
  (∀ (l1 : Int) (x1 : Int) (x2 : Int) (nx : Nat) (h r : PF) (s : Int → Int) (Q : PO → PY → Nat → PC → Prop), (Wp 132 250 [some (pR 178), some (pI l1)] [pI x2, pI x1, pR 178] LY nx (h, r, s) Q ↔ Wp 132 251 [some (pR 178), some (pI l1)] [pI (w32 (x1 - x2)), pR 178] LY nx (h, r, s) Q)) ∧
  (∀ (l1 : Int) (x1 : Int) (nx : Nat) (h r : PF) (s : Int → Int) (Q : PO → PY → Nat → PC → Prop), (Wp 132 251 [some (pR 178), some (pI l1)] [pI x1, pR 178] LY nx (h, r, s) Q ↔ Wp 132 258 [some (pR 178), some (pI l1)] [pI x1, pR 178] LY nx (h, r, s) Q)) ∧
  (∀ (l1 : Int) (nx : Nat) (h r : PF) (s : Int → Int) (Q : PO → PY → Nat → PC → Prop), (Wp 132 254 [some (pR 178), some (pI l1)] [pR 178] LY nx (h, r, s) Q ↔ Wp 132 255 [some (pR 178), some (pI l1)] [pR 178, pR 178] LY nx (h, r, s) Q)) ∧
  (∀ (l1 : Int) (nx : Nat) (h r : PF) (s : Int → Int) (Q : PO → PY → Nat → PC → Prop), (Wp 132 255 [some (pR 178), some (pI l1)] [pR 178, pR 178] LY nx (h, r, s) Q ↔ Wp 132 258 [some (pR 178), some (pI l1)] [pI (h 178 9), pR 178] LY nx (h, r, s) Q)) ∧
  (∀ (l1 : Int) (x1 : Int) (nx : Nat) (h r : PF) (s : Int → Int) (Q : PO → PY → Nat → PC → Prop), (Wp 132 258 [some (pR 178), some (pI l1)] [pI x1, pR 178] LY nx (h, r, s) Q ↔ Wp 132 261 [some (pR 178), some (pI l1)] [] LY nx (fup h 178 9 x1, r, s) Q)) ∧
  (∀ (l1 : Int) (nx : Nat) (h r : PF) (s : Int → Int) (Q : PO → PY → Nat → PC → Prop), (Wp 132 261 [some (pR 178), some (pI l1)] [] LY nx (h, r, s) Q ↔ Wp 132 262 [some (pR 178), some (pI l1)] [pR 178] LY nx (h, r, s) Q)) ∧
  (∀ (l1 : Int) (nx : Nat) (h r : PF) (s : Int → Int) (Q : PO → PY → Nat → PC → Prop), (Wp 132 262 [some (pR 178), some (pI l1)] [pR 178] LY nx (h, r, s) Q ↔ Wp 132 263 [some (pR 178), some (pI l1)] [pR 178, pR 178] LY nx (h, r, s) Q)) ∧
  (∀ (l1 : Int) (nx : Nat) (h r : PF) (s : Int → Int) (Q : PO → PY → Nat → PC → Prop), (Wp 132 263 [some (pR 178), some (pI l1)] [pR 178, pR 178] LY nx (h, r, s) Q ↔ Wp 132 266 [some (pR 178), some (pI l1)] [pI (h 178 7), pR 178] LY nx (h, r, s) Q)) ∧
  (∀ (l1 : Int) (x1 : Int) (nx : Nat) (h r : PF) (s : Int → Int) (Q : PO → PY → Nat → PC → Prop), (Wp 132 266 [some (pR 178), some (pI l1)] [pI x1, pR 178] LY nx (h, r, s) Q ↔ Wp 132 267 [some (pR 178), some (pI l1)] [pI 1, pI x1, pR 178] LY nx (h, r, s) Q)) ∧
  (∀ (l1 : Int) (x1 : Int) (x2 : Int) (nx : Nat) (h r : PF) (s : Int → Int) (Q : PO → PY → Nat → PC → Prop), (Wp 132 267 [some (pR 178), some (pI l1)] [pI x2, pI x1, pR 178] LY nx (h, r, s) Q ↔ Wp 132 268 [some (pR 178), some (pI l1)] [pI (w32 (x1 + x2)), pR 178] LY nx (h, r, s) Q)) ∧
  (∀ (l1 : Int) (x1 : Int) (nx : Nat) (h r : PF) (s : Int → Int) (Q : PO → PY → Nat → PC → Prop), (Wp 132 268 [some (pR 178), some (pI l1)] [pI x1, pR 178] LY nx (h, r, s) Q ↔ Wp 132 271 [some (pR 178), some (pI l1)] [] LY nx (fup h 178 7 x1, r, s) Q)) ∧
  (∀ (l1 : Int) (nx : Nat) (h r : PF) (s : Int → Int) (Q : PO → PY → Nat → PC → Prop), (Wp 132 271 [some (pR 178), some (pI l1)] [] LY nx (h, r, s) Q ↔ Wp 132 200 [some (pR 178), some (pI l1)] [] LY nx (h, r, s) Q)) ∧
  (∀ (l1 : Int) (nx : Nat) (h r : PF) (s : Int → Int) (Q : PO → PY → Nat → PC → Prop), (Wp 132 274 [some (pR 178), some (pI l1)] [] LY nx (h, r, s) Q ↔ Wp 132 275 [some (pR 178), some (pI l1)] [pR 178] LY nx (h, r, s) Q)) ∧
  (∀ (l1 : Int) (nx : Nat) (h r : PF) (s : Int → Int) (Q : PO → PY → Nat → PC → Prop), (Wp 132 275 [some (pR 178), some (pI l1)] [pR 178] LY nx (h, r, s) Q ↔ Wp 132 276 [some (pR 178), some (pI l1)] [pR 178, pR 178] LY nx (h, r, s) Q)) ∧
  (∀ (l1 : Int) (nx : Nat) (h r : PF) (s : Int → Int) (Q : PO → PY → Nat → PC → Prop), (Wp 132 276 [some (pR 178), some (pI l1)] [pR 178, pR 178] LY nx (h, r, s) Q ↔ Wp 132 279 [some (pR 178), some (pI l1)] [pI (h 178 7), pR 178] LY nx (h, r, s) Q)) ∧
  (∀ (l1 : Int) (x1 : Int) (nx : Nat) (h r : PF) (s : Int → Int) (Q : PO → PY → Nat → PC → Prop), (Wp 132 279 [some (pR 178), some (pI l1)] [pI x1, pR 178] LY nx (h, r, s) Q ↔ Wp 132 280 [some (pR 178), some (pI l1)] [pR 178, pI x1, pR 178] LY nx (h, r, s) Q)) ∧
  (∀ (l1 : Int) (x1 : Int) (nx : Nat) (h r : PF) (s : Int → Int) (Q : PO → PY → Nat → PC → Prop), (Wp 132 280 [some (pR 178), some (pI l1)] [pR 178, pI x1, pR 178] LY nx (h, r, s) Q ↔ Wp 132 283 [some (pR 178), some (pI l1)] [pI (h 178 6), pI x1, pR 178] LY nx (h, r, s) Q)) ∧
  (∀ (l1 : Int) (x1 : Int) (x2 : Int) (nx : Nat) (h r : PF) (s : Int → Int) (Q : PO → PY → Nat → PC → Prop), (Wp 132 283 [some (pR 178), some (pI l1)] [pI x2, pI x1, pR 178] LY nx (h, r, s) Q ↔ Wp 132 284 [some (pR 178), some (pI l1)] [pI (w32 (x1 - x2)), pR 178] LY nx (h, r, s) Q)) ∧
  (∀ (l1 : Int) (x1 : Int) (nx : Nat) (h r : PF) (s : Int → Int) (Q : PO → PY → Nat → PC → Prop), (Wp 132 284 [some (pR 178), some (pI l1)] [pI x1, pR 178] LY nx (h, r, s) Q ↔ Wp 132 285 [some (pR 178), some (pI l1)] [pI 3, pI x1, pR 178] LY nx (h, r, s) Q)) ∧
  (∀ (l1 : Int) (x1 : Int) (x2 : Int) (nx : Nat) (h r : PF) (s : Int → Int) (Q : PO → PY → Nat → PC → Prop), (Wp 132 285 [some (pR 178), some (pI l1)] [pI x2, pI x1, pR 178] LY nx (h, r, s) Q ↔ (if x1 ≤ x2 then Wp 132 292 [some (pR 178), some (pI l1)] [pR 178] LY nx (h, r, s) Q else Wp 132 288 [some (pR 178), some (pI l1)] [pR 178] LY nx (h, r, s) Q))) ∧
  (∀ (l1 : Int) (nx : Nat) (h r : PF) (s : Int → Int) (Q : PO → PY → Nat → PC → Prop), (Wp 132 288 [some (pR 178), some (pI l1)] [pR 178] LY nx (h, r, s) Q ↔ Wp 132 289 [some (pR 178), some (pI l1)] [pI 4, pR 178] LY nx (h, r, s) Q)) ∧
  (∀ (l1 : Int) (x1 : Int) (nx : Nat) (h r : PF) (s : Int → Int) (Q : PO → PY → Nat → PC → Prop), (Wp 132 289 [some (pR 178), some (pI l1)] [pI x1, pR 178] LY nx (h, r, s) Q ↔ Wp 132 293 [some (pR 178), some (pI l1)] [pI x1, pR 178] LY nx (h, r, s) Q)) ∧
  (∀ (l1 : Int) (nx : Nat) (h r : PF) (s : Int → Int) (Q : PO → PY → Nat → PC → Prop), (Wp 132 292 [some (pR 178), some (pI l1)] [pR 178] LY nx (h, r, s) Q ↔ Wp 132 293 [some (pR 178), some (pI l1)] [pI 2, pR 178] LY nx (h, r, s) Q)) ∧
  (∀ (l1 : Int) (x1 : Int) (nx : Nat) (h r : PF) (s : Int → Int) (Q : PO → PY → Nat → PC → Prop), (Wp 132 293 [some (pR 178), some (pI l1)] [pI x1, pR 178] LY nx (h, r, s) Q ↔ Wp 132 296 [some (pR 178), some (pI l1)] [] LY nx (fup h 178 8 x1, r, s) Q)) ∧
  (∀ (l1 : Int) (nx : Nat) (h r : PF) (s : Int → Int) (Q : PO → PY → Nat → PC → Prop), (Wp 132 296 [some (pR 178), some (pI l1)] [] LY nx (h, r, s) Q ↔ Wp 132 324 [some (pR 178), some (pI l1)] [] LY nx (h, r, s) Q)) ∧
  (∀ (l1 : Int) (nx : Nat) (h r : PF) (s : Int → Int) (Q : PO → PY → Nat → PC → Prop), (Wp 132 299 [some (pR 178), some (pI l1)] [] LY nx (h, r, s) Q ↔ Wp 132 300 [some (pR 178), some (pI l1)] [pR 178] LY nx (h, r, s) Q)) ∧
  (∀ (l1 : Int) (nx : Nat) (h r : PF) (s : Int → Int) (Q : PO → PY → Nat → PC → Prop), (Wp 132 300 [some (pR 178), some (pI l1)] [pR 178] LY nx (h, r, s) Q ↔ Wp 132 301 [some (pR 178), some (pI l1)] [pR 178, pR 178] LY nx (h, r, s) Q)) ∧
  (∀ (l1 : Int) (nx : Nat) (h r : PF) (s : Int → Int) (Q : PO → PY → Nat → PC → Prop), (Wp 132 301 [some (pR 178), some (pI l1)] [pR 178, pR 178] LY nx (h, r, s) Q ↔ Wp 132 304 [some (pR 178), some (pI l1)] [pI (h 178 7), pR 178] LY nx (h, r, s) Q)) ∧
  (∀ (l1 : Int) (x1 : Int) (nx : Nat) (h r : PF) (s : Int → Int) (Q : PO → PY → Nat → PC → Prop), (Wp 132 304 [some (pR 178), some (pI l1)] [pI x1, pR 178] LY nx (h, r, s) Q ↔ Wp 132 305 [some (pR 178), some (pI l1)] [pI 1, pI x1, pR 178] LY nx (h, r, s) Q)) ∧
  (∀ (l1 : Int) (x1 : Int) (x2 : Int) (nx : Nat) (h r : PF) (s : Int → Int) (Q : PO → PY → Nat → PC → Prop), (Wp 132 305 [some (pR 178), some (pI l1)] [pI x2, pI x1, pR 178] LY nx (h, r, s) Q ↔ Wp 132 306 [some (pR 178), some (pI l1)] [pI (w32 (x1 + x2)), pR 178] LY nx (h, r, s) Q)) ∧
  (∀ (l1 : Int) (x1 : Int) (nx : Nat) (h r : PF) (s : Int → Int) (Q : PO → PY → Nat → PC → Prop), (Wp 132 306 [some (pR 178), some (pI l1)] [pI x1, pR 178] LY nx (h, r, s) Q ↔ Wp 132 309 [some (pR 178), some (pI l1)] [] LY nx (fup h 178 7 x1, r, s) Q)) ∧
  (∀ (l1 : Int) (nx : Nat) (h r : PF) (s : Int → Int) (Q : PO → PY → Nat → PC → Prop), (Wp 132 309 [some (pR 178), some (pI l1)] [] LY nx (h, r, s) Q ↔ Wp 132 310 [some (pR 178), some (pI l1)] [pR 178] LY nx (h, r, s) Q)) ∧
  (∀ (l1 : Int) (nx : Nat) (h r : PF) (s : Int → Int) (Q : PO → PY → Nat → PC → Prop), (Wp 132 310 [some (pR 178), some (pI l1)] [pR 178] LY nx (h, r, s) Q ↔ Wp 132 311 [some (pR 178), some (pI l1)] [pI l1, pR 178] LY nx (h, r, s) Q)) ∧
  (∀ (l1 : Int) (x1 : Int) (nx : Nat) (h r : PF) (s : Int → Int) (Q : PO → PY → Nat → PC → Prop), (Wp 132 311 [some (pR 178), some (pI l1)] [pI x1, pR 178] LY nx (h, r, s) Q ↔ Wp 132 313 [some (pR 178), some (pI l1)] [pI 59, pI x1, pR 178] LY nx (h, r, s) Q)) ∧
  (∀ (l1 : Int) (x1 : Int) (x2 : Int) (nx : Nat) (h r : PF) (s : Int → Int) (Q : PO → PY → Nat → PC → Prop), (Wp 132 313 [some (pR 178), some (pI l1)] [pI x2, pI x1, pR 178] LY nx (h, r, s) Q ↔ (if x1 ≠ x2 then Wp 132 320 [some (pR 178), some (pI l1)] [pR 178] LY nx (h, r, s) Q else Wp 132 316 [some (pR 178), some (pI l1)] [pR 178] LY nx (h, r, s) Q))) ∧
  (∀ (l1 : Int) (nx : Nat) (h r : PF) (s : Int → Int) (Q : PO → PY → Nat → PC → Prop), (Wp 132 316 [some (pR 178), some (pI l1)] [pR 178] LY nx (h, r, s) Q ↔ Wp 132 317 [some (pR 178), some (pI l1)] [pI 3, pR 178] LY nx (h, r, s) Q)) ∧
  (∀ (l1 : Int) (x1 : Int) (nx : Nat) (h r : PF) (s : Int → Int) (Q : PO → PY → Nat → PC → Prop), (Wp 132 317 [some (pR 178), some (pI l1)] [pI x1, pR 178] LY nx (h, r, s) Q ↔ Wp 132 321 [some (pR 178), some (pI l1)] [pI x1, pR 178] LY nx (h, r, s) Q)) ∧
  (∀ (l1 : Int) (nx : Nat) (h r : PF) (s : Int → Int) (Q : PO → PY → Nat → PC → Prop), (Wp 132 320 [some (pR 178), some (pI l1)] [pR 178] LY nx (h, r, s) Q ↔ Wp 132 321 [some (pR 178), some (pI l1)] [pI 4, pR 178] LY nx (h, r, s) Q)) ∧
  (∀ (l1 : Int) (x1 : Int) (nx : Nat) (h r : PF) (s : Int → Int) (Q : PO → PY → Nat → PC → Prop), (Wp 132 321 [some (pR 178), some (pI l1)] [pI x1, pR 178] LY nx (h, r, s) Q ↔ Wp 132 324 [some (pR 178), some (pI l1)] [] LY nx (fup h 178 8 x1, r, s) Q)) ∧
  (∀ (l1 : Int) (nx : Nat) (h r : PF) (s : Int → Int) (Q : PO → PY → Nat → PC → Prop), (Wp 132 324 [some (pR 178), some (pI l1)] [] LY nx (h, r, s) Q ↔ Q (Sum.inl none) LY nx (h, r, s))) :=
  ⟨fun l1 x1 nx h r s Q  => o_getI (by decide +kernel : pcode 132 241 = some (55, 1224, 8, 7, 84)) (by decide) (by decide +kernel),
  fun l1 x1 x3 nx h r s Q  => o_ivV (s1 := [pI x3]) (s2 := [pI x1, pR 178]) (o := 178) (by decide +kernel : pcode 132 244 = some (78, 131, 2, 1336, 87)) rfl (Nat.le_of_ble_eq_true rfl) (by decide) (by decide +kernel) rfl rfl rfl,
  fun l1 x1 x2 nx h r s Q  => o_iadd (by decide +kernel : pcode 132 247 = some (19, 0, 0, 0, 0)),
  fun l1 x1 nx h r s Q  => o_bipush (by decide +kernel : pcode 132 248 = some (2, 0, 0, 0, 48)),
  fun l1 x1 x2 nx h r s Q  => o_isub (by decide +kernel : pcode 132 250 = some (20, 0, 0, 0, 0)),
  fun l1 x1 nx h r s Q  => o_goto (by decide +kernel : pcode 132 251 = some (53, 258, 0, 0, 7)),
  fun l1 nx h r s Q  => o_aload_n (by decide +kernel : pcode 132 254 = some (10, 0, 0, 0, 0)) rfl,
  fun l1 nx h r s Q  => o_getI (by decide +kernel : pcode 132 255 = some (55, 1226, 8, 9, 94)) (by decide) (by decide +kernel),
  fun l1 x1 nx h r s Q  => o_putI (by decide +kernel : pcode 132 258 = some (58, 1226, 8, 9, 94)) (by decide) (by decide +kernel),
  fun l1 nx h r s Q  => o_aload_n (by decide +kernel : pcode 132 261 = some (10, 0, 0, 0, 0)) rfl,
  fun l1 nx h r s Q  => o_dup (by decide +kernel : pcode 132 262 = some (38, 0, 0, 0, 0)) rfl,
  fun l1 nx h r s Q  => o_getI (by decide +kernel : pcode 132 263 = some (55, 1224, 8, 7, 84)) (by decide) (by decide +kernel),
  fun l1 x1 nx h r s Q  => o_iconst (by decide +kernel : pcode 132 266 = some (1, 0, 0, 0, 1)),
  fun l1 x1 x2 nx h r s Q  => o_iadd (by decide +kernel : pcode 132 267 = some (19, 0, 0, 0, 0)),
  fun l1 x1 nx h r s Q  => o_putI (by decide +kernel : pcode 132 268 = some (58, 1224, 8, 7, 84)) (by decide) (by decide +kernel),
  fun l1 nx h r s Q  => o_goto (by decide +kernel : pcode 132 271 = some (53, 200, 0, 0, -71)),
  fun l1 nx h r s Q  => o_aload_n (by decide +kernel : pcode 132 274 = some (10, 0, 0, 0, 0)) rfl,
  fun l1 nx h r s Q  => o_aload_n (by decide +kernel : pcode 132 275 = some (10, 0, 0, 0, 0)) rfl,
  fun l1 nx h r s Q  => o_getI (by decide +kernel : pcode 132 276 = some (55, 1224, 8, 7, 84)) (by decide) (by decide +kernel),
  fun l1 x1 nx h r s Q  => o_aload_n (by decide +kernel : pcode 132 279 = some (10, 0, 0, 0, 0)) rfl,
  fun l1 x1 nx h r s Q  => o_getI (by decide +kernel : pcode 132 280 = some (55, 1223, 8, 6, 91)) (by decide) (by decide +kernel),
  fun l1 x1 x2 nx h r s Q  => o_isub (by decide +kernel : pcode 132 283 = some (20, 0, 0, 0, 0)),
  fun l1 x1 nx h r s Q  => o_iconst (by decide +kernel : pcode 132 284 = some (1, 0, 0, 0, 3)),
  fun l1 x1 x2 nx h r s Q  => o_icmp_le (by decide +kernel : pcode 132 285 = some (52, 292, 0, 0, 7)),
  fun l1 nx h r s Q  => o_iconst (by decide +kernel : pcode 132 288 = some (1, 0, 0, 0, 4)),
  fun l1 x1 nx h r s Q  => o_goto (by decide +kernel : pcode 132 289 = some (53, 293, 0, 0, 4)),
  fun l1 nx h r s Q  => o_iconst (by decide +kernel : pcode 132 292 = some (1, 0, 0, 0, 2)),
  fun l1 x1 nx h r s Q  => o_putI (by decide +kernel : pcode 132 293 = some (58, 1225, 8, 8, 101)) (by decide) (by decide +kernel),
  fun l1 nx h r s Q  => o_goto (by decide +kernel : pcode 132 296 = some (53, 324, 0, 0, 28)),
  fun l1 nx h r s Q  => o_aload_n (by decide +kernel : pcode 132 299 = some (10, 0, 0, 0, 0)) rfl,
  fun l1 nx h r s Q  => o_dup (by decide +kernel : pcode 132 300 = some (38, 0, 0, 0, 0)) rfl,
  fun l1 nx h r s Q  => o_getI (by decide +kernel : pcode 132 301 = some (55, 1224, 8, 7, 84)) (by decide) (by decide +kernel),
  fun l1 x1 nx h r s Q  => o_iconst (by decide +kernel : pcode 132 304 = some (1, 0, 0, 0, 1)),
  fun l1 x1 x2 nx h r s Q  => o_iadd (by decide +kernel : pcode 132 305 = some (19, 0, 0, 0, 0)),
  fun l1 x1 nx h r s Q  => o_putI (by decide +kernel : pcode 132 306 = some (58, 1224, 8, 7, 84)) (by decide) (by decide +kernel),
  fun l1 nx h r s Q  => o_aload_n (by decide +kernel : pcode 132 309 = some (10, 0, 0, 0, 0)) rfl,
  fun l1 nx h r s Q  => o_iload_n (by decide +kernel : pcode 132 310 = some (6, 1, 0, 0, 0)) rfl,
  fun l1 x1 nx h r s Q  => o_bipush (by decide +kernel : pcode 132 311 = some (2, 0, 0, 0, 59)),
  fun l1 x1 x2 nx h r s Q  => o_icmp_ne (by decide +kernel : pcode 132 313 = some (48, 320, 0, 0, 7)),
  fun l1 nx h r s Q  => o_iconst (by decide +kernel : pcode 132 316 = some (1, 0, 0, 0, 3)),
  fun l1 x1 nx h r s Q  => o_goto (by decide +kernel : pcode 132 317 = some (53, 321, 0, 0, 4)),
  fun l1 nx h r s Q  => o_iconst (by decide +kernel : pcode 132 320 = some (1, 0, 0, 0, 4)),
  fun l1 x1 nx h r s Q  => o_putI (by decide +kernel : pcode 132 321 = some (58, 1225, 8, 8, 101)) (by decide) (by decide +kernel),
  fun l1 nx h r s Q  => o_vret (by decide +kernel : pcode 132 324 = some (90, 0, 0, 0, 0))⟩
theorem sh_X8_advance_0  {nx : Nat} {h r : PF} {s : Int → Int} {Q : PO → PY → Nat → PC → Prop} : (Wp 132 0 [some (pR 178), none] [] LY nx (h, r, s) Q ↔ Wp 132 1 [some (pR 178), none] [pR 178] LY nx (h, r, s) Q) := o_aload_n (by decide +kernel : pcode 132 0 = some (10, 0, 0, 0, 0)) rfl
theorem sh_X8_advance_90 {l1 : Int} {nx : Nat} {h r : PF} {s : Int → Int} {Q : PO → PY → Nat → PC → Prop} : (Wp 132 90 [some (pR 178), some (pI l1)] [] LY nx (h, r, s) Q ↔ Wp 132 91 [some (pR 178), some (pI l1)] [pR 178] LY nx (h, r, s) Q) := o_aload_n (by decide +kernel : pcode 132 90 = some (10, 0, 0, 0, 0)) rfl
theorem sh_X8_advance_200 {l1 : Int} {nx : Nat} {h r : PF} {s : Int → Int} {Q : PO → PY → Nat → PC → Prop} : (Wp 132 200 [some (pR 178), some (pI l1)] [] LY nx (h, r, s) Q ↔ Wp 132 201 [some (pR 178), some (pI l1)] [pR 178] LY nx (h, r, s) Q) := o_aload_n (by decide +kernel : pcode 132 200 = some (10, 0, 0, 0, 0)) rfl
set_option maxHeartbeats 4000000 in
set_option maxRecDepth 10000 in
theorem st_X8_isWord :
  (∀ (l1 : Int) (nx : Nat) (h r : PF) (s : Int → Int) (Q : PO → PY → Nat → PC → Prop), (Wp 133 0 [some (pR 178), some (pR l1), none, none] [] LY nx (h, r, s) Q ↔ Wp 133 1 [some (pR 178), some (pR l1), none, none] [pR 178] LY nx (h, r, s) Q)) ∧
  (∀ (l1 : Int) (nx : Nat) (h r : PF) (s : Int → Int) (Q : PO → PY → Nat → PC → Prop), (Wp 133 1 [some (pR 178), some (pR l1), none, none] [pR 178] LY nx (h, r, s) Q ↔ Wp 133 4 [some (pR 178), some (pR l1), none, none] [pI (h 178 8)] LY nx (h, r, s) Q)) ∧
  (∀ (l1 : Int) (x0 : Int) (nx : Nat) (h r : PF) (s : Int → Int) (Q : PO → PY → Nat → PC → Prop), (Wp 133 4 [some (pR 178), some (pR l1), none, none] [pI x0] LY nx (h, r, s) Q ↔ Wp 133 5 [some (pR 178), some (pR l1), none, none] [pI 1, pI x0] LY nx (h, r, s) Q)) ∧
  (∀ (l1 : Int) (x0 : Int) (x1 : Int) (nx : Nat) (h r : PF) (s : Int → Int) (Q : PO → PY → Nat → PC → Prop), (Wp 133 5 [some (pR 178), some (pR l1), none, none] [pI x1, pI x0] LY nx (h, r, s) Q ↔ (if x0 ≠ x1 then Wp 133 28 [some (pR 178), some (pR l1), none, none] [] LY nx (h, r, s) Q else Wp 133 8 [some (pR 178), some (pR l1), none, none] [] LY nx (h, r, s) Q))) ∧
  (∀ (l1 : Int) (nx : Nat) (h r : PF) (s : Int → Int) (Q : PO → PY → Nat → PC → Prop), (Wp 133 8 [some (pR 178), some (pR l1), none, none] [] LY nx (h, r, s) Q ↔ Wp 133 9 [some (pR 178), some (pR l1), none, none] [pR 178] LY nx (h, r, s) Q)) ∧
  (∀ (l1 : Int) (nx : Nat) (h r : PF) (s : Int → Int) (Q : PO → PY → Nat → PC → Prop), (Wp 133 9 [some (pR 178), some (pR l1), none, none] [pR 178] LY nx (h, r, s) Q ↔ Wp 133 12 [some (pR 178), some (pR l1), none, none] [pI (h 178 7)] LY nx (h, r, s) Q)) ∧
  (∀ (l1 : Int) (x0 : Int) (nx : Nat) (h r : PF) (s : Int → Int) (Q : PO → PY → Nat → PC → Prop), (Wp 133 12 [some (pR 178), some (pR l1), none, none] [pI x0] LY nx (h, r, s) Q ↔ Wp 133 13 [some (pR 178), some (pR l1), none, none] [pR 178, pI x0] LY nx (h, r, s) Q)) ∧
  (∀ (l1 : Int) (x0 : Int) (nx : Nat) (h r : PF) (s : Int → Int) (Q : PO → PY → Nat → PC → Prop), (Wp 133 13 [some (pR 178), some (pR l1), none, none] [pR 178, pI x0] LY nx (h, r, s) Q ↔ Wp 133 16 [some (pR 178), some (pR l1), none, none] [pI (h 178 6), pI x0] LY nx (h, r, s) Q)) ∧
  (∀ (l1 : Int) (x0 : Int) (x1 : Int) (nx : Nat) (h r : PF) (s : Int → Int) (Q : PO → PY → Nat → PC → Prop), (Wp 133 16 [some (pR 178), some (pR l1), none, none] [pI x1, pI x0] LY nx (h, r, s) Q ↔ Wp 133 17 [some (pR 178), some (pR l1), none, none] [pI (w32 (x0 - x1))] LY nx (h, r, s) Q)) ∧
  (∀ (l1 : Int) (x0 : Int) (nx : Nat) (h r : PF) (s : Int → Int) (Q : PO → PY → Nat → PC → Prop), (Wp 133 17 [some (pR 178), some (pR l1), none, none] [pI x0] LY nx (h, r, s) Q ↔ Wp 133 18 [some (pR 178), some (pR l1), none, none] [pR l1, pI x0] LY nx (h, r, s) Q)) ∧
  (∀ (l1 : Int) (x0 : Int) (x1 : Int) (nx : Nat) (h r : PF) (s : Int → Int) (Q : PO → PY → Nat → PC → Prop), -7 ≤ x1 → x1 < 0 → (Wp 133 18 [some (pR 178), some (pR l1), none, none] [pR x1, pI x0] LY nx (h, r, s) Q ↔ Wp 133 21 [some (pR 178), some (pR l1), none, none] [pI (pstrLen x1), pI x0] LY nx (h, r, s) Q)) ∧
  (∀ (l1 : Int) (x0 : Int) (x1 : Int) (nx : Nat) (h r : PF) (s : Int → Int) (Q : PO → PY → Nat → PC → Prop), (Wp 133 21 [some (pR 178), some (pR l1), none, none] [pI x1, pI x0] LY nx (h, r, s) Q ↔ (if x0 ≠ x1 then Wp 133 28 [some (pR 178), some (pR l1), none, none] [] LY nx (h, r, s) Q else Wp 133 24 [some (pR 178), some (pR l1), none, none] [] LY nx (h, r, s) Q))) ∧
  (∀ (l1 : Int) (nx : Nat) (h r : PF) (s : Int → Int) (Q : PO → PY → Nat → PC → Prop), (Wp 133 24 [some (pR 178), some (pR l1), none, none] [] LY nx (h, r, s) Q ↔ Wp 133 25 [some (pR 178), some (pR l1), none, none] [pI 1] LY nx (h, r, s) Q)) ∧
  (∀ (l1 : Int) (x0 : Int) (nx : Nat) (h r : PF) (s : Int → Int) (Q : PO → PY → Nat → PC → Prop), (Wp 133 25 [some (pR 178), some (pR l1), none, none] [pI x0] LY nx (h, r, s) Q ↔ Wp 133 29 [some (pR 178), some (pR l1), none, none] [pI x0] LY nx (h, r, s) Q)) ∧
  (∀ (l1 : Int) (nx : Nat) (h r : PF) (s : Int → Int) (Q : PO → PY → Nat → PC → Prop), (Wp 133 28 [some (pR 178), some (pR l1), none, none] [] LY nx (h, r, s) Q ↔ Wp 133 29 [some (pR 178), some (pR l1), none, none] [pI 0] LY nx (h, r, s) Q)) ∧
  (∀ (l1 : Int) (x0 : Int) (nx : Nat) (h r : PF) (s : Int → Int) (Q : PO → PY → Nat → PC → Prop), (Wp 133 29 [some (pR 178), some (pR l1), none, none] [pI x0] LY nx (h, r, s) Q ↔ Wp 133 30 [some (pR 178), some (pR l1), some (pI x0), none] [] LY nx (h, r, s) Q)) ∧
  (∀ (l1 : Int) (l2 : Int) (nx : Nat) (h r : PF) (s : Int → Int) (Q : PO → PY → Nat → PC → Prop), (Wp 133 30 [some (pR 178), some (pR l1), some (pI l2), none] [] LY nx (h, r, s) Q ↔ Wp 133 31 [some (pR 178), some (pR l1), some (pI l2), none] [pI 0] LY nx (h, r, s) Q)) ∧
  (∀ (l1 : Int) (l2 : Int) (x0 : Int) (nx : Nat) (h r : PF) (s : Int → Int) (Q : PO → PY → Nat → PC → Prop), (Wp 133 31 [some (pR 178), some (pR l1), some (pI l2), none] [pI x0] LY nx (h, r, s) Q ↔ Wp 133 32 [some (pR 178), some (pR l1), some (pI l2), some (pI x0)] [] LY nx (h, r, s) Q)) ∧
  (∀ (l1 : Int) (l2 : Int) (l3 : Int) (x0 : Int) (nx : Nat) (h r : PF) (s : Int → Int) (Q : PO → PY → Nat → PC → Prop), (Wp 133 33 [some (pR 178), some (pR l1), some (pI l2), some (pI l3)] [pI x0] LY nx (h, r, s) Q ↔ Wp 133 34 [some (pR 178), some (pR l1), some (pI l2), some (pI l3)] [pR l1, pI x0] LY nx (h, r, s) Q)) ∧
  (∀ (l1 : Int) (l2 : Int) (l3 : Int) (x0 : Int) (x1 : Int) (nx : Nat) (h r : PF) (s : Int → Int) (Q : PO → PY → Nat → PC → Prop), -7 ≤ x1 → x1 < 0 → (Wp 133 34 [some (pR 178), some (pR l1), some (pI l2), some (pI l3)] [pR x1, pI x0] LY nx (h, r, s) Q ↔ Wp 133 37 [some (pR 178), some (pR l1), some (pI l2), some (pI l3)] [pI (pstrLen x1), pI x0] LY nx (h, r, s) Q)) ∧
  (∀ (l1 : Int) (l2 : Int) (l3 : Int) (x0 : Int) (x1 : Int) (nx : Nat) (h r : PF) (s : Int → Int) (Q : PO → PY → Nat → PC → Prop), (Wp 133 37 [some (pR 178), some (pR l1), some (pI l2), some (pI l3)] [pI x1, pI x0] LY nx (h, r, s) Q ↔ (if x1 ≤ x0 then Wp 133 75 [some (pR 178), some (pR l1), some (pI l2), some (pI l3)] [] LY nx (h, r, s) Q else Wp 133 40 [some (pR 178), some (pR l1), some (pI l2), some (pI l3)] [] LY nx (h, r, s) Q))) ∧
  (∀ (l1 : Int) (l2 : Int) (l3 : Int) (nx : Nat) (h r : PF) (s : Int → Int) (Q : PO → PY → Nat → PC → Prop), (Wp 133 40 [some (pR 178), some (pR l1), some (pI l2), some (pI l3)] [] LY nx (h, r, s) Q ↔ Wp 133 41 [some (pR 178), some (pR l1), some (pI l2), some (pI l3)] [pI l2] LY nx (h, r, s) Q)) ∧
  (∀ (l1 : Int) (l2 : Int) (l3 : Int) (x0 : Int) (nx : Nat) (h r : PF) (s : Int → Int) (Q : PO → PY → Nat → PC → Prop), (Wp 133 41 [some (pR 178), some (pR l1), some (pI l2), some (pI l3)] [pI x0] LY nx (h, r, s) Q ↔ (if x0 = 0 then Wp 133 75 [some (pR 178), some (pR l1), some (pI l2), some (pI l3)] [] LY nx (h, r, s) Q else Wp 133 44 [some (pR 178), some (pR l1), some (pI l2), some (pI l3)] [] LY nx (h, r, s) Q))) ∧
  (∀ (l1 : Int) (l2 : Int) (l3 : Int) (nx : Nat) (h r : PF) (s : Int → Int) (Q : PO → PY → Nat → PC → Prop), (Wp 133 44 [some (pR 178), some (pR l1), some (pI l2), some (pI l3)] [] LY nx (h, r, s) Q ↔ Wp 133 45 [some (pR 178), some (pR l1), some (pI l2), some (pI l3)] [pR 178] LY nx (h, r, s) Q)) ∧
  (∀ (l1 : Int) (l2 : Int) (l3 : Int) (nx : Nat) (h r : PF) (s : Int → Int) (Q : PO → PY → Nat → PC → Prop), WFr r → (Wp 133 45 [some (pR 178), some (pR l1), some (pI l2), some (pI l3)] [pR 178] LY nx (h, r, s) Q ↔ Wp 133 48 [some (pR 178), some (pR l1), some (pI l2), some (pI l3)] [pR 181] LY nx (h, r, s) Q)) ∧
  (∀ (l1 : Int) (l2 : Int) (l3 : Int) (nx : Nat) (h r : PF) (s : Int → Int) (Q : PO → PY → Nat → PC → Prop), (Wp 133 48 [some (pR 178), some (pR l1), some (pI l2), some (pI l3)] [pR 181] LY nx (h, r, s) Q ↔ Wp 133 49 [some (pR 178), some (pR l1), some (pI l2), some (pI l3)] [pR 178, pR 181] LY nx (h, r, s) Q)) ∧
  (∀ (l1 : Int) (l2 : Int) (l3 : Int) (nx : Nat) (h r : PF) (s : Int → Int) (Q : PO → PY → Nat → PC → Prop), (Wp 133 49 [some (pR 178), some (pR l1), some (pI l2), some (pI l3)] [pR 178, pR 181] LY nx (h, r, s) Q ↔ Wp 133 52 [some (pR 178), some (pR l1), some (pI l2), some (pI l3)] [pI (h 178 6), pR 181] LY nx (h, r, s) Q)) ∧
  (∀ (l1 : Int) (l2 : Int) (l3 : Int) (x1 : Int) (nx : Nat) (h r : PF) (s : Int → Int) (Q : PO → PY → Nat → PC → Prop), (Wp 133 52 [some (pR 178), some (pR l1), some (pI l2), some (pI l3)] [pI x1, pR 181] LY nx (h, r, s) Q ↔ Wp 133 53 [some (pR 178), some (pR l1), some (pI l2), some (pI l3)] [pI l3, pI x1, pR 181] LY nx (h, r, s) Q)) ∧
  (∀ (l1 : Int) (l2 : Int) (l3 : Int) (x1 : Int) (x2 : Int) (nx : Nat) (h r : PF) (s : Int → Int) (Q : PO → PY → Nat → PC → Prop), (Wp 133 53 [some (pR 178), some (pR l1), some (pI l2), some (pI l3)] [pI x2, pI x1, pR 181] LY nx (h, r, s) Q ↔ Wp 133 54 [some (pR 178), some (pR l1), some (pI l2), some (pI l3)] [pI (w32 (x1 + x2)), pR 181] LY nx (h, r, s) Q)) ∧
  (∀ (l1 : Int) (l2 : Int) (l3 : Int) (x1 : Int) (nx : Nat) (h r : PF) (s : Int → Int) (Q : PO → PY → Nat → PC → Prop), 0 ≤ x1 → x1 < 600 → (Wp 133 54 [some (pR 178), some (pR l1), some (pI l2), some (pI l3)] [pI x1, pR 181] LY nx (h, r, s) Q ↔ Wp 133 55 [some (pR 178), some (pR l1), some (pI l2), some (pI l3)] [pI (h 181 x1)] LY nx (h, r, s) Q)) ∧
  (∀ (l1 : Int) (l2 : Int) (l3 : Int) (x0 : Int) (nx : Nat) (h r : PF) (s : Int → Int) (Q : PO → PY → Nat → PC → Prop), (Wp 133 55 [some (pR 178), some (pR l1), some (pI l2), some (pI l3)] [pI x0] LY nx (h, r, s) Q ↔ Wp 133 56 [some (pR 178), some (pR l1), some (pI l2), some (pI l3)] [pR l1, pI x0] LY nx (h, r, s) Q)) ∧
  (∀ (l1 : Int) (l2 : Int) (l3 : Int) (x0 : Int) (x1 : Int) (nx : Nat) (h r : PF) (s : Int → Int) (Q : PO → PY → Nat → PC → Prop), (Wp 133 56 [some (pR 178), some (pR l1), some (pI l2), some (pI l3)] [pR x1, pI x0] LY nx (h, r, s) Q ↔ Wp 133 57 [some (pR 178), some (pR l1), some (pI l2), some (pI l3)] [pI l3, pR x1, pI x0] LY nx (h, r, s) Q)) ∧
  (∀ (l1 : Int) (l2 : Int) (l3 : Int) (x0 : Int) (x1 : Int) (x2 : Int) (nx : Nat) (h r : PF) (s : Int → Int) (Q : PO → PY → Nat → PC → Prop), -7 ≤ x1 → x1 < 0 → 0 ≤ x2 → x2 < pstrLen x1 → (Wp 133 57 [some (pR 178), some (pR l1), some (pI l2), some (pI l3)] [pI x2, pR x1, pI x0] LY nx (h, r, s) Q ↔ Wp 133 60 [some (pR 178), some (pR l1), some (pI l2), some (pI l3)] [pI (pstrAt x1 x2), pI x0] LY nx (h, r, s) Q)) ∧
  (∀ (l1 : Int) (l2 : Int) (l3 : Int) (x0 : Int) (x1 : Int) (nx : Nat) (h r : PF) (s : Int → Int) (Q : PO → PY → Nat → PC → Prop), (Wp 133 60 [some (pR 178), some (pR l1), some (pI l2), some (pI l3)] [pI x1, pI x0] LY nx (h, r, s) Q ↔ (if x0 ≠ x1 then Wp 133 67 [some (pR 178), some (pR l1), some (pI l2), some (pI l3)] [] LY nx (h, r, s) Q else Wp 133 63 [some (pR 178), some (pR l1), some (pI l2), some (pI l3)] [] LY nx (h, r, s) Q))) ∧
  (∀ (l1 : Int) (l2 : Int) (l3 : Int) (nx : Nat) (h r : PF) (s : Int → Int) (Q : PO → PY → Nat → PC → Prop), (Wp 133 63 [some (pR 178), some (pR l1), some (pI l2), some (pI l3)] [] LY nx (h, r, s) Q ↔ Wp 133 64 [some (pR 178), some (pR l1), some (pI l2), some (pI l3)] [pI 1] LY nx (h, r, s) Q)) ∧
  (∀ (l1 : Int) (l2 : Int) (l3 : Int) (x0 : Int) (nx : Nat) (h r : PF) (s : Int → Int) (Q : PO → PY → Nat → PC → Prop), (Wp 133 64 [some (pR 178), some (pR l1), some (pI l2), some (pI l3)] [pI x0] LY nx (h, r, s) Q ↔ Wp 133 68 [some (pR 178), some (pR l1), some (pI l2), some (pI l3)] [pI x0] LY nx (h, r, s) Q)) ∧
  (∀ (l1 : Int) (l2 : Int) (l3 : Int) (nx : Nat) (h r : PF) (s : Int → Int) (Q : PO → PY → Nat → PC → Prop), (Wp 133 67 [some (pR 178), some (pR l1), some (pI l2), some (pI l3)] [] LY nx (h, r, s) Q ↔ Wp 133 68 [some (pR 178), some (pR l1), some (pI l2), some (pI l3)] [pI 0] LY nx (h, r, s) Q)) ∧
  (∀ (l1 : Int) (l2 : Int) (l3 : Int) (x0 : Int) (nx : Nat) (h r : PF) (s : Int → Int) (Q : PO → PY → Nat → PC → Prop), (Wp 133 68 [some (pR 178), some (pR l1), some (pI l2), some (pI l3)] [pI x0] LY nx (h, r, s) Q ↔ Wp 133 69 [some (pR 178), some (pR l1), some (pI x0), some (pI l3)] [] LY nx (h, r, s) Q)) ∧
  (∀ (l1 : Int) (l2 : Int) (l3 : Int) (nx : Nat) (h r : PF) (s : Int → Int) (Q : PO → PY → Nat → PC → Prop), (Wp 133 69 [some (pR 178), some (pR l1), some (pI l2), some (pI l3)] [] LY nx (h, r, s) Q ↔ Wp 133 72 [some (pR 178), some (pR l1), some (pI l2), some (pI (w32 (l3 + 1)))] [] LY nx (h, r, s) Q)) ∧
  (∀ (l1 : Int) (l2 : Int) (l3 : Int) (nx : Nat) (h r : PF) (s : Int → Int) (Q : PO → PY → Nat → PC → Prop), (Wp 133 72 [some (pR 178), some (pR l1), some (pI l2), some (pI l3)] [] LY nx (h, r, s) Q ↔ Wp 133 32 [some (pR 178), some (pR l1), some (pI l2), some (pI l3)] [] LY nx (h, r, s) Q)) ∧
  (∀ (l1 : Int) (l2 : Int) (l3 : Int) (nx : Nat) (h r : PF) (s : Int → Int) (Q : PO → PY → Nat → PC → Prop), (Wp 133 75 [some (pR 178), some (pR l1), some (pI l2), some (pI l3)] [] LY nx (h, r, s) Q ↔ Wp 133 76 [some (pR 178), some (pR l1), some (pI l2), some (pI l3)] [pI l2] LY nx (h, r, s) Q)) ∧
  (∀ (l1 : Int) (l2 : Int) (l3 : Int) (x0 : Int) (nx : Nat) (h r : PF) (s : Int → Int) (Q : PO → PY → Nat → PC → Prop), x0 = 0 ∨ x0 = 1 → (Wp 133 76 [some (pR 178), some (pR l1), some (pI l2), some (pI l3)] [pI x0] LY nx (h, r, s) Q ↔ Q (Sum.inl (some (pI x0))) LY nx (h, r, s))) :=
  ⟨fun l1 nx h r s Q  => o_aload_n (by decide +kernel : pcode 133 0 = some (10, 0, 0, 0, 0)) rfl,
  fun l1 nx h r s Q  => o_getI (by decide +kernel : pcode 133 1 = some (55, 1225, 8, 8, 101)) (by decide) (by decide +kernel),
  fun l1 x0 nx h r s Q  => o_iconst (by decide +kernel : pcode 133 4 = some (1, 0, 0, 0, 1)),
  fun l1 x0 x1 nx h r s Q  => o_icmp_ne (by decide +kernel : pcode 133 5 = some (48, 28, 0, 0, 23)),
  fun l1 nx h r s Q  => o_aload_n (by decide +kernel : pcode 133 8 = some (10, 0, 0, 0, 0)) rfl,
  fun l1 nx h r s Q  => o_getI (by decide +kernel : pcode 133 9 = some (55, 1224, 8, 7, 84)) (by decide) (by decide +kernel),
  fun l1 x0 nx h r s Q  => o_aload_n (by decide +kernel : pcode 133 12 = some (10, 0, 0, 0, 0)) rfl,
  fun l1 x0 nx h r s Q  => o_getI (by decide +kernel : pcode 133 13 = some (55, 1223, 8, 6, 91)) (by decide) (by decide +kernel),
  fun l1 x0 x1 nx h r s Q  => o_isub (by decide +kernel : pcode 133 16 = some (20, 0, 0, 0, 0)),
  fun l1 x0 nx h r s Q  => o_aload_n (by decide +kernel : pcode 133 17 = some (10, 1, 0, 0, 0)) rfl,
  fun l1 x0 x1 nx h r s Q ha hb => o_slength (by decide +kernel : pcode 133 18 = some (91, 108, 1345, 0, 0)) ha hb (Nat.le_of_ble_eq_true rfl),
  fun l1 x0 x1 nx h r s Q  => o_icmp_ne (by decide +kernel : pcode 133 21 = some (48, 28, 0, 0, 7)),
  fun l1 nx h r s Q  => o_iconst (by decide +kernel : pcode 133 24 = some (1, 0, 0, 0, 1)),
  fun l1 x0 nx h r s Q  => o_goto (by decide +kernel : pcode 133 25 = some (53, 29, 0, 0, 4)),
  fun l1 nx h r s Q  => o_iconst (by decide +kernel : pcode 133 28 = some (1, 0, 0, 0, 0)),
  fun l1 x0 nx h r s Q  => o_istore_n (by decide +kernel : pcode 133 29 = some (12, 2, 0, 0, 0)) rfl,
  fun l1 l2 nx h r s Q  => o_iconst (by decide +kernel : pcode 133 30 = some (1, 0, 0, 0, 0)),
  fun l1 l2 x0 nx h r s Q  => o_istore_n (by decide +kernel : pcode 133 31 = some (12, 3, 0, 0, 0)) rfl,
  fun l1 l2 l3 x0 nx h r s Q  => o_aload_n (by decide +kernel : pcode 133 33 = some (10, 1, 0, 0, 0)) rfl,
  fun l1 l2 l3 x0 x1 nx h r s Q ha hb => o_slength (by decide +kernel : pcode 133 34 = some (91, 108, 1345, 0, 0)) ha hb (Nat.le_of_ble_eq_true rfl),
  fun l1 l2 l3 x0 x1 nx h r s Q  => o_icmp_ge (by decide +kernel : pcode 133 37 = some (50, 75, 0, 0, 38)),
  fun l1 l2 l3 nx h r s Q  => o_iload_n (by decide +kernel : pcode 133 40 = some (6, 2, 0, 0, 0)) rfl,
  fun l1 l2 l3 x0 nx h r s Q  => o_if_eq (by decide +kernel : pcode 133 41 = some (41, 75, 0, 0, 34)),
  fun l1 l2 l3 nx h r s Q  => o_aload_n (by decide +kernel : pcode 133 44 = some (10, 0, 0, 0, 0)) rfl,
  fun l1 l2 l3 nx h r s Q hw => o_getR (h := (h, r, s)) (by decide +kernel : pcode 133 45 = some (57, 1220, 8, 3, 16)) (by decide) (by decide +kernel) (hw _ (List.mem_of_getElem? (i := 174) rfl)) (by decide),
  fun l1 l2 l3 nx h r s Q  => o_aload_n (by decide +kernel : pcode 133 48 = some (10, 0, 0, 0, 0)) rfl,
  fun l1 l2 l3 nx h r s Q  => o_getI (by decide +kernel : pcode 133 49 = some (55, 1223, 8, 6, 91)) (by decide) (by decide +kernel),
  fun l1 l2 l3 x1 nx h r s Q  => o_iload_n (by decide +kernel : pcode 133 52 = some (6, 3, 0, 0, 0)) rfl,
  fun l1 l2 l3 x1 x2 nx h r s Q  => o_iadd (by decide +kernel : pcode 133 53 = some (19, 0, 0, 0, 0)),
  fun l1 l2 l3 x1 nx h r s Q hi hn => o_bald (h := (h, r, s)) (n := 600) (by decide +kernel : pcode 133 54 = some (67, 0, 0, 0, 0)) (by decide) (by decide +kernel) hi hn,
  fun l1 l2 l3 x0 nx h r s Q  => o_aload_n (by decide +kernel : pcode 133 55 = some (10, 1, 0, 0, 0)) rfl,
  fun l1 l2 l3 x0 x1 nx h r s Q  => o_iload_n (by decide +kernel : pcode 133 56 = some (6, 3, 0, 0, 0)) rfl,
  fun l1 l2 l3 x0 x1 x2 nx h r s Q ha hb hi hn => o_scharAt (by decide +kernel : pcode 133 57 = some (92, 113, 1346, 0, 0)) ha hb hi hn (Nat.le_of_ble_eq_true rfl),
  fun l1 l2 l3 x0 x1 nx h r s Q  => o_icmp_ne (by decide +kernel : pcode 133 60 = some (48, 67, 0, 0, 7)),
  fun l1 l2 l3 nx h r s Q  => o_iconst (by decide +kernel : pcode 133 63 = some (1, 0, 0, 0, 1)),
  fun l1 l2 l3 x0 nx h r s Q  => o_goto (by decide +kernel : pcode 133 64 = some (53, 68, 0, 0, 4)),
  fun l1 l2 l3 nx h r s Q  => o_iconst (by decide +kernel : pcode 133 67 = some (1, 0, 0, 0, 0)),
  fun l1 l2 l3 x0 nx h r s Q  => o_istore_n (by decide +kernel : pcode 133 68 = some (12, 2, 0, 0, 0)) rfl,
  fun l1 l2 l3 nx h r s Q  => o_iinc (by decide +kernel : pcode 133 69 = some (18, 3, 0, 0, 1)) rfl rfl,
  fun l1 l2 l3 nx h r s Q  => o_goto (by decide +kernel : pcode 133 72 = some (53, 32, 0, 0, -40)),
  fun l1 l2 l3 nx h r s Q  => o_iload_n (by decide +kernel : pcode 133 75 = some (6, 2, 0, 0, 0)) rfl,
  fun l1 l2 l3 x0 nx h r s Q hz => o_zret (by decide +kernel : pcode 133 76 = some (88, 0, 0, 0, 0)) hz⟩
theorem sh_X8_isWord_32 {l1 : Int} {l2 : Int} {l3 : Int} {nx : Nat} {h r : PF} {s : Int → Int} {Q : PO → PY → Nat → PC → Prop} : (Wp 133 32 [some (pR 178), some (pR l1), some (pI l2), some (pI l3)] [] LY nx (h, r, s) Q ↔ Wp 133 33 [some (pR 178), some (pR l1), some (pI l2), some (pI l3)] [pI l3] LY nx (h, r, s) Q) := o_iload_n (by decide +kernel : pcode 133 32 = some (6, 3, 0, 0, 0)) rfl
set_option maxHeartbeats 4000000 in
set_option maxRecDepth 10000 in
theorem st_X8_fails :
  (∀ (l1 : Int) (nx : Nat) (h r : PF) (s : Int → Int) (Q : PO → PY → Nat → PC → Prop), (Wp 134 0 [some (pR 178), some (pI l1)] [] LY nx (h, r, s) Q ↔ Wp 134 1 [some (pR 178), some (pI l1)] [pR 178] LY nx (h, r, s) Q)) ∧
  (∀ (l1 : Int) (nx : Nat) (h r : PF) (s : Int → Int) (Q : PO → PY → Nat → PC → Prop), (Wp 134 1 [some (pR 178), some (pI l1)] [pR 178] LY nx (h, r, s) Q ↔ Wp 134 4 [some (pR 178), some (pI l1)] [pI (h 178 11)] LY nx (h, r, s) Q)) ∧
  (∀ (l1 : Int) (x0 : Int) (nx : Nat) (h r : PF) (s : Int → Int) (Q : PO → PY → Nat → PC → Prop), (Wp 134 4 [some (pR 178), some (pI l1)] [pI x0] LY nx (h, r, s) Q ↔ (if x0 ≠ 0 then Wp 134 20 [some (pR 178), some (pI l1)] [] LY nx (h, r, s) Q else Wp 134 7 [some (pR 178), some (pI l1)] [] LY nx (h, r, s) Q))) ∧
  (∀ (l1 : Int) (nx : Nat) (h r : PF) (s : Int → Int) (Q : PO → PY → Nat → PC → Prop), (Wp 134 7 [some (pR 178), some (pI l1)] [] LY nx (h, r, s) Q ↔ Wp 134 8 [some (pR 178), some (pI l1)] [pR 178] LY nx (h, r, s) Q)) ∧
  (∀ (l1 : Int) (nx : Nat) (h r : PF) (s : Int → Int) (Q : PO → PY → Nat → PC → Prop), (Wp 134 8 [some (pR 178), some (pI l1)] [pR 178] LY nx (h, r, s) Q ↔ Wp 134 9 [some (pR 178), some (pI l1)] [pI l1, pR 178] LY nx (h, r, s) Q)) ∧
  (∀ (l1 : Int) (x1 : Int) (nx : Nat) (h r : PF) (s : Int → Int) (Q : PO → PY → Nat → PC → Prop), (Wp 134 9 [some (pR 178), some (pI l1)] [pI x1, pR 178] LY nx (h, r, s) Q ↔ Wp 134 12 [some (pR 178), some (pI l1)] [] LY nx (fup h 178 11 x1, r, s) Q)) ∧
  (∀ (l1 : Int) (nx : Nat) (h r : PF) (s : Int → Int) (Q : PO → PY → Nat → PC → Prop), (Wp 134 12 [some (pR 178), some (pI l1)] [] LY nx (h, r, s) Q ↔ Wp 134 13 [some (pR 178), some (pI l1)] [pR 178] LY nx (h, r, s) Q)) ∧
  (∀ (l1 : Int) (nx : Nat) (h r : PF) (s : Int → Int) (Q : PO → PY → Nat → PC → Prop), (Wp 134 13 [some (pR 178), some (pI l1)] [pR 178] LY nx (h, r, s) Q ↔ Wp 134 14 [some (pR 178), some (pI l1)] [pR 178, pR 178] LY nx (h, r, s) Q)) ∧
  (∀ (l1 : Int) (nx : Nat) (h r : PF) (s : Int → Int) (Q : PO → PY → Nat → PC → Prop), (Wp 134 14 [some (pR 178), some (pI l1)] [pR 178, pR 178] LY nx (h, r, s) Q ↔ Wp 134 17 [some (pR 178), some (pI l1)] [pI (h 178 6), pR 178] LY nx (h, r, s) Q)) ∧
  (∀ (l1 : Int) (x1 : Int) (nx : Nat) (h r : PF) (s : Int → Int) (Q : PO → PY → Nat → PC → Prop), (Wp 134 17 [some (pR 178), some (pI l1)] [pI x1, pR 178] LY nx (h, r, s) Q ↔ Wp 134 20 [some (pR 178), some (pI l1)] [] LY nx (fup h 178 12 x1, r, s) Q)) ∧
  (∀ (l1 : Int) (nx : Nat) (h r : PF) (s : Int → Int) (Q : PO → PY → Nat → PC → Prop), (Wp 134 20 [some (pR 178), some (pI l1)] [] LY nx (h, r, s) Q ↔ Wp 134 21 [some (pR 178), some (pI l1)] [pI 0] LY nx (h, r, s) Q)) ∧
  (∀ (l1 : Int) (x0 : Int) (nx : Nat) (h r : PF) (s : Int → Int) (Q : PO → PY → Nat → PC → Prop), x0 = 0 ∨ x0 = 1 → (Wp 134 21 [some (pR 178), some (pI l1)] [pI x0] LY nx (h, r, s) Q ↔ Q (Sum.inl (some (pI x0))) LY nx (h, r, s))) :=
  ⟨fun l1 nx h r s Q  => o_aload_n (by decide +kernel : pcode 134 0 = some (10, 0, 0, 0, 0)) rfl,
  fun l1 nx h r s Q  => o_getI (by decide +kernel : pcode 134 1 = some (55, 1228, 8, 11, 117)) (by decide) (by decide +kernel),
  fun l1 x0 nx h r s Q  => o_if_ne (by decide +kernel : pcode 134 4 = some (42, 20, 0, 0, 16)),
  fun l1 nx h r s Q  => o_aload_n (by decide +kernel : pcode 134 7 = some (10, 0, 0, 0, 0)) rfl,
  fun l1 nx h r s Q  => o_iload_n (by decide +kernel : pcode 134 8 = some (6, 1, 0, 0, 0)) rfl,
  fun l1 x1 nx h r s Q  => o_putI (by decide +kernel : pcode 134 9 = some (58, 1228, 8, 11, 117)) (by decide) (by decide +kernel),
  fun l1 nx h r s Q  => o_aload_n (by decide +kernel : pcode 134 12 = some (10, 0, 0, 0, 0)) rfl,
  fun l1 nx h r s Q  => o_aload_n (by decide +kernel : pcode 134 13 = some (10, 0, 0, 0, 0)) rfl,
  fun l1 nx h r s Q  => o_getI (by decide +kernel : pcode 134 14 = some (55, 1223, 8, 6, 91)) (by decide) (by decide +kernel),
  fun l1 x1 nx h r s Q  => o_putI (by decide +kernel : pcode 134 17 = some (58, 1229, 8, 12, 20)) (by decide) (by decide +kernel),
  fun l1 nx h r s Q  => o_iconst (by decide +kernel : pcode 134 20 = some (1, 0, 0, 0, 0)),
  fun l1 x0 nx h r s Q hz => o_zret (by decide +kernel : pcode 134 21 = some (88, 0, 0, 0, 0)) hz⟩
set_option maxHeartbeats 4000000 in
set_option maxRecDepth 10000 in
theorem st_X8_starts :
  (∀ (l1 : Int) (l2 : Int) (nx : Nat) (h r : PF) (s : Int → Int) (Q : PO → PY → Nat → PC → Prop), (Wp 135 0 [some (pR 178), some (pI l1), some (pI l2)] [] LY nx (h, r, s) Q ↔ Wp 135 1 [some (pR 178), some (pI l1), some (pI l2)] [pI l2] LY nx (h, r, s) Q)) ∧
  (∀ (l1 : Int) (l2 : Int) (x0 : Int) (nx : Nat) (h r : PF) (s : Int → Int) (Q : PO → PY → Nat → PC → Prop), (Wp 135 1 [some (pR 178), some (pI l1), some (pI l2)] [pI x0] LY nx (h, r, s) Q ↔ (if x0 ≠ 0 then Wp 135 10 [some (pR 178), some (pI l1), some (pI l2)] [] LY nx (h, r, s) Q else Wp 135 4 [some (pR 178), some (pI l1), some (pI l2)] [] LY nx (h, r, s) Q))) ∧
  (∀ (l1 : Int) (l2 : Int) (nx : Nat) (h r : PF) (s : Int → Int) (Q : PO → PY → Nat → PC → Prop), (Wp 135 4 [some (pR 178), some (pI l1), some (pI l2)] [] LY nx (h, r, s) Q ↔ Wp 135 5 [some (pR 178), some (pI l1), some (pI l2)] [pR 178] LY nx (h, r, s) Q)) ∧
  (∀ (l1 : Int) (l2 : Int) (nx : Nat) (h r : PF) (s : Int → Int) (Q : PO → PY → Nat → PC → Prop), (Wp 135 5 [some (pR 178), some (pI l1), some (pI l2)] [pR 178] LY nx (h, r, s) Q ↔ Wp 135 6 [some (pR 178), some (pI l1), some (pI l2)] [pI l1, pR 178] LY nx (h, r, s) Q)) ∧
  (∀ (l1 : Int) (l2 : Int) (x1 : Int) (nx : Nat) (h r : PF) (s : Int → Int) (Q : PO → PY → Nat → PC → Prop), (Wp 135 6 [some (pR 178), some (pI l1), some (pI l2)] [pI x1, pR 178] LY nx (h, r, s) Q ↔ Wp 134 0 [some (pR 178), some (pI x1)] [] LY nx (h, r, s) (Kc 135 6 [some (pR 178), some (pI l1), some (pI l2)] 9 [] Q))) ∧
  (∀ (l1 : Int) (l2 : Int) (x0 : Int) (nx : Nat) (h r : PF) (s : Int → Int) (Q : PO → PY → Nat → PC → Prop), x0 = 0 ∨ x0 = 1 → (Wp 135 9 [some (pR 178), some (pI l1), some (pI l2)] [pI x0] LY nx (h, r, s) Q ↔ Q (Sum.inl (some (pI x0))) LY nx (h, r, s))) ∧
  (∀ (l1 : Int) (l2 : Int) (nx : Nat) (h r : PF) (s : Int → Int) (Q : PO → PY → Nat → PC → Prop), (Wp 135 10 [some (pR 178), some (pI l1), some (pI l2)] [] LY nx (h, r, s) Q ↔ Wp 135 11 [some (pR 178), some (pI l1), some (pI l2)] [pR 178] LY nx (h, r, s) Q)) ∧
  (∀ (l1 : Int) (l2 : Int) (nx : Nat) (h r : PF) (s : Int → Int) (Q : PO → PY → Nat → PC → Prop), (Wp 135 11 [some (pR 178), some (pI l1), some (pI l2)] [pR 178] LY nx (h, r, s) Q ↔ Wp 132 0 [some (pR 178), none] [] LY nx (h, r, s) (Kc 135 11 [some (pR 178), some (pI l1), some (pI l2)] 14 [] Q))) ∧
  (∀ (l1 : Int) (l2 : Int) (nx : Nat) (h r : PF) (s : Int → Int) (Q : PO → PY → Nat → PC → Prop), (Wp 135 14 [some (pR 178), some (pI l1), some (pI l2)] [] LY nx (h, r, s) Q ↔ Wp 135 15 [some (pR 178), some (pI l1), some (pI l2)] [pI 1] LY nx (h, r, s) Q)) ∧
  (∀ (l1 : Int) (l2 : Int) (x0 : Int) (nx : Nat) (h r : PF) (s : Int → Int) (Q : PO → PY → Nat → PC → Prop), x0 = 0 ∨ x0 = 1 → (Wp 135 15 [some (pR 178), some (pI l1), some (pI l2)] [pI x0] LY nx (h, r, s) Q ↔ Q (Sum.inl (some (pI x0))) LY nx (h, r, s))) :=
  ⟨fun l1 l2 nx h r s Q  => o_iload_n (by decide +kernel : pcode 135 0 = some (6, 2, 0, 0, 0)) rfl,
  fun l1 l2 x0 nx h r s Q  => o_if_ne (by decide +kernel : pcode 135 1 = some (42, 10, 0, 0, 9)),
  fun l1 l2 nx h r s Q  => o_aload_n (by decide +kernel : pcode 135 4 = some (10, 0, 0, 0, 0)) rfl,
  fun l1 l2 nx h r s Q  => o_iload_n (by decide +kernel : pcode 135 5 = some (6, 1, 0, 0, 0)) rfl,
  fun l1 l2 x1 nx h r s Q  => o_ivV (s1 := [pI x1]) (s2 := []) (o := 178) (by decide +kernel : pcode 135 6 = some (78, 134, 2, 1351, 120)) rfl (Nat.le_of_ble_eq_true rfl) (by decide) (by decide +kernel) rfl rfl rfl,
  fun l1 l2 x0 nx h r s Q hz => o_zret (by decide +kernel : pcode 135 9 = some (88, 0, 0, 0, 0)) hz,
  fun l1 l2 nx h r s Q  => o_aload_n (by decide +kernel : pcode 135 10 = some (10, 0, 0, 0, 0)) rfl,
  fun l1 l2 nx h r s Q  => o_ivV (s1 := []) (s2 := []) (o := 178) (by decide +kernel : pcode 135 11 = some (78, 132, 1, 1332, 124)) rfl (Nat.le_of_ble_eq_true rfl) (by decide) (by decide +kernel) rfl rfl rfl,
  fun l1 l2 nx h r s Q  => o_iconst (by decide +kernel : pcode 135 14 = some (1, 0, 0, 0, 1)),
  fun l1 l2 x0 nx h r s Q hz => o_zret (by decide +kernel : pcode 135 15 = some (88, 0, 0, 0, 0)) hz⟩
set_option maxHeartbeats 4000000 in
set_option maxRecDepth 10000 in
theorem st_X8_takes :
  (∀ (l1 : Int) (l2 : Int) (nx : Nat) (h r : PF) (s : Int → Int) (Q : PO → PY → Nat → PC → Prop), (Wp 136 0 [some (pR 178), some (pI l1), some (pI l2)] [] LY nx (h, r, s) Q ↔ Wp 136 1 [some (pR 178), some (pI l1), some (pI l2)] [pR 178] LY nx (h, r, s) Q)) ∧
  (∀ (l1 : Int) (l2 : Int) (nx : Nat) (h r : PF) (s : Int → Int) (Q : PO → PY → Nat → PC → Prop), (Wp 136 1 [some (pR 178), some (pI l1), some (pI l2)] [pR 178] LY nx (h, r, s) Q ↔ Wp 136 4 [some (pR 178), some (pI l1), some (pI l2)] [pI (h 178 8)] LY nx (h, r, s) Q)) ∧
  (∀ (l1 : Int) (l2 : Int) (x0 : Int) (nx : Nat) (h r : PF) (s : Int → Int) (Q : PO → PY → Nat → PC → Prop), (Wp 136 4 [some (pR 178), some (pI l1), some (pI l2)] [pI x0] LY nx (h, r, s) Q ↔ Wp 136 5 [some (pR 178), some (pI l1), some (pI l2)] [pI 2, pI x0] LY nx (h, r, s) Q)) ∧
  (∀ (l1 : Int) (l2 : Int) (x0 : Int) (x1 : Int) (nx : Nat) (h r : PF) (s : Int → Int) (Q : PO → PY → Nat → PC → Prop), (Wp 136 5 [some (pR 178), some (pI l1), some (pI l2)] [pI x1, pI x0] LY nx (h, r, s) Q ↔ (if x0 = x1 then Wp 136 14 [some (pR 178), some (pI l1), some (pI l2)] [] LY nx (h, r, s) Q else Wp 136 8 [some (pR 178), some (pI l1), some (pI l2)] [] LY nx (h, r, s) Q))) ∧
  (∀ (l1 : Int) (l2 : Int) (nx : Nat) (h r : PF) (s : Int → Int) (Q : PO → PY → Nat → PC → Prop), (Wp 136 8 [some (pR 178), some (pI l1), some (pI l2)] [] LY nx (h, r, s) Q ↔ Wp 136 9 [some (pR 178), some (pI l1), some (pI l2)] [pR 178] LY nx (h, r, s) Q)) ∧
  (∀ (l1 : Int) (l2 : Int) (nx : Nat) (h r : PF) (s : Int → Int) (Q : PO → PY → Nat → PC → Prop), (Wp 136 9 [some (pR 178), some (pI l1), some (pI l2)] [pR 178] LY nx (h, r, s) Q ↔ Wp 136 10 [some (pR 178), some (pI l1), some (pI l2)] [pI 1, pR 178] LY nx (h, r, s) Q)) ∧
  (∀ (l1 : Int) (l2 : Int) (x1 : Int) (nx : Nat) (h r : PF) (s : Int → Int) (Q : PO → PY → Nat → PC → Prop), (Wp 136 10 [some (pR 178), some (pI l1), some (pI l2)] [pI x1, pR 178] LY nx (h, r, s) Q ↔ Wp 134 0 [some (pR 178), some (pI x1)] [] LY nx (h, r, s) (Kc 136 10 [some (pR 178), some (pI l1), some (pI l2)] 13 [] Q))) ∧
  (∀ (l1 : Int) (l2 : Int) (x0 : Int) (nx : Nat) (h r : PF) (s : Int → Int) (Q : PO → PY → Nat → PC → Prop), x0 = 0 ∨ x0 = 1 → (Wp 136 13 [some (pR 178), some (pI l1), some (pI l2)] [pI x0] LY nx (h, r, s) Q ↔ Q (Sum.inl (some (pI x0))) LY nx (h, r, s))) ∧
  (∀ (l1 : Int) (l2 : Int) (nx : Nat) (h r : PF) (s : Int → Int) (Q : PO → PY → Nat → PC → Prop), (Wp 136 14 [some (pR 178), some (pI l1), some (pI l2)] [] LY nx (h, r, s) Q ↔ Wp 136 15 [some (pR 178), some (pI l1), some (pI l2)] [pR 178] LY nx (h, r, s) Q)) ∧
  (∀ (l1 : Int) (l2 : Int) (nx : Nat) (h r : PF) (s : Int → Int) (Q : PO → PY → Nat → PC → Prop), (Wp 136 15 [some (pR 178), some (pI l1), some (pI l2)] [pR 178] LY nx (h, r, s) Q ↔ Wp 136 18 [some (pR 178), some (pI l1), some (pI l2)] [pI (h 178 9)] LY nx (h, r, s) Q)) ∧
  (∀ (l1 : Int) (l2 : Int) (x0 : Int) (nx : Nat) (h r : PF) (s : Int → Int) (Q : PO → PY → Nat → PC → Prop), (Wp 136 18 [some (pR 178), some (pI l1), some (pI l2)] [pI x0] LY nx (h, r, s) Q ↔ Wp 136 19 [some (pR 178), some (pI l1), some (pI l2)] [pI l1, pI x0] LY nx (h, r, s) Q)) ∧
  (∀ (l1 : Int) (l2 : Int) (x0 : Int) (x1 : Int) (nx : Nat) (h r : PF) (s : Int → Int) (Q : PO → PY → Nat → PC → Prop), (Wp 136 19 [some (pR 178), some (pI l1), some (pI l2)] [pI x1, pI x0] LY nx (h, r, s) Q ↔ Wp 136 20 [some (pR 178), some (pI l1), some (pI l2)] [pI l2, pI x1, pI x0] LY nx (h, r, s) Q)) ∧
  (∀ (l1 : Int) (l2 : Int) (x0 : Int) (x1 : Int) (x2 : Int) (nx : Nat) (h r : PF) (s : Int → Int) (Q : PO → PY → Nat → PC → Prop), (Wp 136 20 [some (pR 178), some (pI l1), some (pI l2)] [pI x2, pI x1, pI x0] LY nx (h, r, s) Q ↔ Wp 127 0 [some (pI x0), some (pI x1), some (pI x2)] [] LY nx (h, r, s) (Kc 136 20 [some (pR 178), some (pI l1), some (pI l2)] 23 [] Q))) ∧
  (∀ (l1 : Int) (l2 : Int) (x0 : Int) (nx : Nat) (h r : PF) (s : Int → Int) (Q : PO → PY → Nat → PC → Prop), (Wp 136 23 [some (pR 178), some (pI l1), some (pI l2)] [pI x0] LY nx (h, r, s) Q ↔ (if x0 ≠ 0 then Wp 136 32 [some (pR 178), some (pI l1), some (pI l2)] [] LY nx (h, r, s) Q else Wp 136 26 [some (pR 178), some (pI l1), some (pI l2)] [] LY nx (h, r, s) Q))) ∧
  (∀ (l1 : Int) (l2 : Int) (nx : Nat) (h r : PF) (s : Int → Int) (Q : PO → PY → Nat → PC → Prop), (Wp 136 26 [some (pR 178), some (pI l1), some (pI l2)] [] LY nx (h, r, s) Q ↔ Wp 136 27 [some (pR 178), some (pI l1), some (pI l2)] [pR 178] LY nx (h, r, s) Q)) ∧
  (∀ (l1 : Int) (l2 : Int) (nx : Nat) (h r : PF) (s : Int → Int) (Q : PO → PY → Nat → PC → Prop), (Wp 136 27 [some (pR 178), some (pI l1), some (pI l2)] [pR 178] LY nx (h, r, s) Q ↔ Wp 136 28 [some (pR 178), some (pI l1), some (pI l2)] [pI 3, pR 178] LY nx (h, r, s) Q)) ∧
  (∀ (l1 : Int) (l2 : Int) (x1 : Int) (nx : Nat) (h r : PF) (s : Int → Int) (Q : PO → PY → Nat → PC → Prop), (Wp 136 28 [some (pR 178), some (pI l1), some (pI l2)] [pI x1, pR 178] LY nx (h, r, s) Q ↔ Wp 134 0 [some (pR 178), some (pI x1)] [] LY nx (h, r, s) (Kc 136 28 [some (pR 178), some (pI l1), some (pI l2)] 31 [] Q))) ∧
  (∀ (l1 : Int) (l2 : Int) (x0 : Int) (nx : Nat) (h r : PF) (s : Int → Int) (Q : PO → PY → Nat → PC → Prop), x0 = 0 ∨ x0 = 1 → (Wp 136 31 [some (pR 178), some (pI l1), some (pI l2)] [pI x0] LY nx (h, r, s) Q ↔ Q (Sum.inl (some (pI x0))) LY nx (h, r, s))) ∧
  (∀ (l1 : Int) (l2 : Int) (nx : Nat) (h r : PF) (s : Int → Int) (Q : PO → PY → Nat → PC → Prop), (Wp 136 32 [some (pR 178), some (pI l1), some (pI l2)] [] LY nx (h, r, s) Q ↔ Wp 136 33 [some (pR 178), some (pI l1), some (pI l2)] [pR 178] LY nx (h, r, s) Q)) ∧
  (∀ (l1 : Int) (l2 : Int) (nx : Nat) (h r : PF) (s : Int → Int) (Q : PO → PY → Nat → PC → Prop), (Wp 136 33 [some (pR 178), some (pI l1), some (pI l2)] [pR 178] LY nx (h, r, s) Q ↔ Wp 136 34 [some (pR 178), some (pI l1), some (pI l2)] [pR 178, pR 178] LY nx (h, r, s) Q)) ∧
  (∀ (l1 : Int) (l2 : Int) (nx : Nat) (h r : PF) (s : Int → Int) (Q : PO → PY → Nat → PC → Prop), (Wp 136 34 [some (pR 178), some (pI l1), some (pI l2)] [pR 178, pR 178] LY nx (h, r, s) Q ↔ Wp 136 37 [some (pR 178), some (pI l1), some (pI l2)] [pI (h 178 9), pR 178] LY nx (h, r, s) Q)) ∧
  (∀ (l1 : Int) (l2 : Int) (x1 : Int) (nx : Nat) (h r : PF) (s : Int → Int) (Q : PO → PY → Nat → PC → Prop), (Wp 136 37 [some (pR 178), some (pI l1), some (pI l2)] [pI x1, pR 178] LY nx (h, r, s) Q ↔ Wp 136 40 [some (pR 178), some (pI l1), some (pI l2)] [] LY nx (fup h 178 13 x1, r, s) Q)) ∧
  (∀ (l1 : Int) (l2 : Int) (nx : Nat) (h r : PF) (s : Int → Int) (Q : PO → PY → Nat → PC → Prop), (Wp 136 40 [some (pR 178), some (pI l1), some (pI l2)] [] LY nx (h, r, s) Q ↔ Wp 136 41 [some (pR 178), some (pI l1), some (pI l2)] [pR 178] LY nx (h, r, s) Q)) ∧
  (∀ (l1 : Int) (l2 : Int) (nx : Nat) (h r : PF) (s : Int → Int) (Q : PO → PY → Nat → PC → Prop), (Wp 136 41 [some (pR 178), some (pI l1), some (pI l2)] [pR 178] LY nx (h, r, s) Q ↔ Wp 132 0 [some (pR 178), none] [] LY nx (h, r, s) (Kc 136 41 [some (pR 178), some (pI l1), some (pI l2)] 44 [] Q))) ∧
  (∀ (l1 : Int) (l2 : Int) (nx : Nat) (h r : PF) (s : Int → Int) (Q : PO → PY → Nat → PC → Prop), (Wp 136 44 [some (pR 178), some (pI l1), some (pI l2)] [] LY nx (h, r, s) Q ↔ Wp 136 45 [some (pR 178), some (pI l1), some (pI l2)] [pI 1] LY nx (h, r, s) Q)) ∧
  (∀ (l1 : Int) (l2 : Int) (x0 : Int) (nx : Nat) (h r : PF) (s : Int → Int) (Q : PO → PY → Nat → PC → Prop), x0 = 0 ∨ x0 = 1 → (Wp 136 45 [some (pR 178), some (pI l1), some (pI l2)] [pI x0] LY nx (h, r, s) Q ↔ Q (Sum.inl (some (pI x0))) LY nx (h, r, s))) :=
  ⟨fun l1 l2 nx h r s Q  => o_aload_n (by decide +kernel : pcode 136 0 = some (10, 0, 0, 0, 0)) rfl,
  fun l1 l2 nx h r s Q  => o_getI (by decide +kernel : pcode 136 1 = some (55, 1225, 8, 8, 101)) (by decide) (by decide +kernel),
  fun l1 l2 x0 nx h r s Q  => o_iconst (by decide +kernel : pcode 136 4 = some (1, 0, 0, 0, 2)),
  fun l1 l2 x0 x1 nx h r s Q  => o_icmp_eq (by decide +kernel : pcode 136 5 = some (47, 14, 0, 0, 9)),
  fun l1 l2 nx h r s Q  => o_aload_n (by decide +kernel : pcode 136 8 = some (10, 0, 0, 0, 0)) rfl,
  fun l1 l2 nx h r s Q  => o_iconst (by decide +kernel : pcode 136 9 = some (1, 0, 0, 0, 1)),
  fun l1 l2 x1 nx h r s Q  => o_ivV (s1 := [pI x1]) (s2 := []) (o := 178) (by decide +kernel : pcode 136 10 = some (78, 134, 2, 1351, 120)) rfl (Nat.le_of_ble_eq_true rfl) (by decide) (by decide +kernel) rfl rfl rfl,
  fun l1 l2 x0 nx h r s Q hz => o_zret (by decide +kernel : pcode 136 13 = some (88, 0, 0, 0, 0)) hz,
  fun l1 l2 nx h r s Q  => o_aload_n (by decide +kernel : pcode 136 14 = some (10, 0, 0, 0, 0)) rfl,
  fun l1 l2 nx h r s Q  => o_getI (by decide +kernel : pcode 136 15 = some (55, 1226, 8, 9, 94)) (by decide) (by decide +kernel),
  fun l1 l2 x0 nx h r s Q  => o_iload_n (by decide +kernel : pcode 136 18 = some (6, 1, 0, 0, 0)) rfl,
  fun l1 l2 x0 x1 nx h r s Q  => o_iload_n (by decide +kernel : pcode 136 19 = some (6, 2, 0, 0, 0)) rfl,
  fun l1 l2 x0 x1 x2 nx h r s Q  => o_ivS (s1 := [pI x2, pI x1, pI x0]) (s2 := []) (by decide +kernel : pcode 136 20 = some (77, 127, 3, 1325, 104)) rfl (Nat.le_of_ble_eq_true rfl) rfl rfl rfl,
  fun l1 l2 x0 nx h r s Q  => o_if_ne (by decide +kernel : pcode 136 23 = some (42, 32, 0, 0, 9)),
  fun l1 l2 nx h r s Q  => o_aload_n (by decide +kernel : pcode 136 26 = some (10, 0, 0, 0, 0)) rfl,
  fun l1 l2 nx h r s Q  => o_iconst (by decide +kernel : pcode 136 27 = some (1, 0, 0, 0, 3)),
  fun l1 l2 x1 nx h r s Q  => o_ivV (s1 := [pI x1]) (s2 := []) (o := 178) (by decide +kernel : pcode 136 28 = some (78, 134, 2, 1351, 120)) rfl (Nat.le_of_ble_eq_true rfl) (by decide) (by decide +kernel) rfl rfl rfl,
  fun l1 l2 x0 nx h r s Q hz => o_zret (by decide +kernel : pcode 136 31 = some (88, 0, 0, 0, 0)) hz,
  fun l1 l2 nx h r s Q  => o_aload_n (by decide +kernel : pcode 136 32 = some (10, 0, 0, 0, 0)) rfl,
  fun l1 l2 nx h r s Q  => o_aload_n (by decide +kernel : pcode 136 33 = some (10, 0, 0, 0, 0)) rfl,
  fun l1 l2 nx h r s Q  => o_getI (by decide +kernel : pcode 136 34 = some (55, 1226, 8, 9, 94)) (by decide) (by decide +kernel),
  fun l1 l2 x1 nx h r s Q  => o_putI (by decide +kernel : pcode 136 37 = some (58, 1230, 8, 13, 127)) (by decide) (by decide +kernel),
  fun l1 l2 nx h r s Q  => o_aload_n (by decide +kernel : pcode 136 40 = some (10, 0, 0, 0, 0)) rfl,
  fun l1 l2 nx h r s Q  => o_ivV (s1 := []) (s2 := []) (o := 178) (by decide +kernel : pcode 136 41 = some (78, 132, 1, 1332, 124)) rfl (Nat.le_of_ble_eq_true rfl) (by decide) (by decide +kernel) rfl rfl rfl,
  fun l1 l2 nx h r s Q  => o_iconst (by decide +kernel : pcode 136 44 = some (1, 0, 0, 0, 1)),
  fun l1 l2 x0 nx h r s Q hz => o_zret (by decide +kernel : pcode 136 45 = some (88, 0, 0, 0, 0)) hz⟩
set_option maxHeartbeats 4000000 in
set_option maxRecDepth 10000 in
theorem st_X8_lays :
  (∀ (l1 : Int) (l2 : Int) (l3 : Int) (nx : Nat) (h r : PF) (s : Int → Int) (Q : PO → PY → Nat → PC → Prop), (Wp 137 0 [some (pR 178), some (pI l1), some (pI l2), some (pI l3)] [] LY nx (h, r, s) Q ↔ Wp 137 1 [some (pR 178), some (pI l1), some (pI l2), some (pI l3)] [pR 178] LY nx (h, r, s) Q)) ∧
  (∀ (l1 : Int) (l2 : Int) (l3 : Int) (nx : Nat) (h r : PF) (s : Int → Int) (Q : PO → PY → Nat → PC → Prop), (Wp 137 1 [some (pR 178), some (pI l1), some (pI l2), some (pI l3)] [pR 178] LY nx (h, r, s) Q ↔ Wp 137 2 [some (pR 178), some (pI l1), some (pI l2), some (pI l3)] [pI l2, pR 178] LY nx (h, r, s) Q)) ∧
  (∀ (l1 : Int) (l2 : Int) (l3 : Int) (x1 : Int) (nx : Nat) (h r : PF) (s : Int → Int) (Q : PO → PY → Nat → PC → Prop), (Wp 137 2 [some (pR 178), some (pI l1), some (pI l2), some (pI l3)] [pI x1, pR 178] LY nx (h, r, s) Q ↔ Wp 137 3 [some (pR 178), some (pI l1), some (pI l2), some (pI l3)] [pI l3, pI x1, pR 178] LY nx (h, r, s) Q)) ∧
  (∀ (l1 : Int) (l2 : Int) (l3 : Int) (x1 : Int) (x2 : Int) (nx : Nat) (h r : PF) (s : Int → Int) (Q : PO → PY → Nat → PC → Prop), (Wp 137 3 [some (pR 178), some (pI l1), some (pI l2), some (pI l3)] [pI x2, pI x1, pR 178] LY nx (h, r, s) Q ↔ Wp 136 0 [some (pR 178), some (pI x1), some (pI x2)] [] LY nx (h, r, s) (Kc 137 3 [some (pR 178), some (pI l1), some (pI l2), some (pI l3)] 6 [] Q))) ∧
  (∀ (l1 : Int) (l2 : Int) (l3 : Int) (x0 : Int) (nx : Nat) (h r : PF) (s : Int → Int) (Q : PO → PY → Nat → PC → Prop), (Wp 137 6 [some (pR 178), some (pI l1), some (pI l2), some (pI l3)] [pI x0] LY nx (h, r, s) Q ↔ (if x0 ≠ 0 then Wp 137 11 [some (pR 178), some (pI l1), some (pI l2), some (pI l3)] [] LY nx (h, r, s) Q else Wp 137 9 [some (pR 178), some (pI l1), some (pI l2), some (pI l3)] [] LY nx (h, r, s) Q))) ∧
  (∀ (l1 : Int) (l2 : Int) (l3 : Int) (nx : Nat) (h r : PF) (s : Int → Int) (Q : PO → PY → Nat → PC → Prop), (Wp 137 9 [some (pR 178), some (pI l1), some (pI l2), some (pI l3)] [] LY nx (h, r, s) Q ↔ Wp 137 10 [some (pR 178), some (pI l1), some (pI l2), some (pI l3)] [pI 0] LY nx (h, r, s) Q)) ∧
  (∀ (l1 : Int) (l2 : Int) (l3 : Int) (x0 : Int) (nx : Nat) (h r : PF) (s : Int → Int) (Q : PO → PY → Nat → PC → Prop), x0 = 0 ∨ x0 = 1 → (Wp 137 10 [some (pR 178), some (pI l1), some (pI l2), some (pI l3)] [pI x0] LY nx (h, r, s) Q ↔ Q (Sum.inl (some (pI x0))) LY nx (h, r, s))) ∧
  (∀ (l1 : Int) (l2 : Int) (l3 : Int) (nx : Nat) (h r : PF) (s : Int → Int) (Q : PO → PY → Nat → PC → Prop), (Wp 137 11 [some (pR 178), some (pI l1), some (pI l2), some (pI l3)] [] LY nx (h, r, s) Q ↔ Wp 137 12 [some (pR 178), some (pI l1), some (pI l2), some (pI l3)] [pR 178] LY nx (h, r, s) Q)) ∧
  (∀ (l1 : Int) (l2 : Int) (l3 : Int) (nx : Nat) (h r : PF) (s : Int → Int) (Q : PO → PY → Nat → PC → Prop), WFr r → (Wp 137 12 [some (pR 178), some (pI l1), some (pI l2), some (pI l3)] [pR 178] LY nx (h, r, s) Q ↔ Wp 137 15 [some (pR 178), some (pI l1), some (pI l2), some (pI l3)] [pR 182] LY nx (h, r, s) Q)) ∧
  (∀ (l1 : Int) (l2 : Int) (l3 : Int) (nx : Nat) (h r : PF) (s : Int → Int) (Q : PO → PY → Nat → PC → Prop), (Wp 137 15 [some (pR 178), some (pI l1), some (pI l2), some (pI l3)] [pR 182] LY nx (h, r, s) Q ↔ Wp 137 16 [some (pR 178), some (pI l1), some (pI l2), some (pI l3)] [pI l1, pR 182] LY nx (h, r, s) Q)) ∧
  (∀ (l1 : Int) (l2 : Int) (l3 : Int) (x1 : Int) (nx : Nat) (h r : PF) (s : Int → Int) (Q : PO → PY → Nat → PC → Prop), (Wp 137 16 [some (pR 178), some (pI l1), some (pI l2), some (pI l3)] [pI x1, pR 182] LY nx (h, r, s) Q ↔ Wp 137 17 [some (pR 178), some (pI l1), some (pI l2), some (pI l3)] [pR 178, pI x1, pR 182] LY nx (h, r, s) Q)) ∧
  (∀ (l1 : Int) (l2 : Int) (l3 : Int) (x1 : Int) (nx : Nat) (h r : PF) (s : Int → Int) (Q : PO → PY → Nat → PC → Prop), (Wp 137 17 [some (pR 178), some (pI l1), some (pI l2), some (pI l3)] [pR 178, pI x1, pR 182] LY nx (h, r, s) Q ↔ Wp 137 20 [some (pR 178), some (pI l1), some (pI l2), some (pI l3)] [pI (h 178 13), pI x1, pR 182] LY nx (h, r, s) Q)) ∧
  (∀ (l1 : Int) (l2 : Int) (l3 : Int) (x1 : Int) (x2 : Int) (nx : Nat) (h r : PF) (s : Int → Int) (Q : PO → PY → Nat → PC → Prop), 0 ≤ x1 → x1 < 164 → (Wp 137 20 [some (pR 178), some (pI l1), some (pI l2), some (pI l3)] [pI x2, pI x1, pR 182] LY nx (h, r, s) Q ↔ Wp 137 21 [some (pR 178), some (pI l1), some (pI l2), some (pI l3)] [] LY nx (fup h 182 x1 x2, r, s) Q)) ∧
  (∀ (l1 : Int) (l2 : Int) (l3 : Int) (nx : Nat) (h r : PF) (s : Int → Int) (Q : PO → PY → Nat → PC → Prop), (Wp 137 21 [some (pR 178), some (pI l1), some (pI l2), some (pI l3)] [] LY nx (h, r, s) Q ↔ Wp 137 22 [some (pR 178), some (pI l1), some (pI l2), some (pI l3)] [pI 1] LY nx (h, r, s) Q)) ∧
  (∀ (l1 : Int) (l2 : Int) (l3 : Int) (x0 : Int) (nx : Nat) (h r : PF) (s : Int → Int) (Q : PO → PY → Nat → PC → Prop), x0 = 0 ∨ x0 = 1 → (Wp 137 22 [some (pR 178), some (pI l1), some (pI l2), some (pI l3)] [pI x0] LY nx (h, r, s) Q ↔ Q (Sum.inl (some (pI x0))) LY nx (h, r, s))) :=
  ⟨fun l1 l2 l3 nx h r s Q  => o_aload_n (by decide +kernel : pcode 137 0 = some (10, 0, 0, 0, 0)) rfl,
  fun l1 l2 l3 nx h r s Q  => o_iload_n (by decide +kernel : pcode 137 1 = some (6, 2, 0, 0, 0)) rfl,
  fun l1 l2 l3 x1 nx h r s Q  => o_iload_n (by decide +kernel : pcode 137 2 = some (6, 3, 0, 0, 0)) rfl,
  fun l1 l2 l3 x1 x2 nx h r s Q  => o_ivV (s1 := [pI x2, pI x1]) (s2 := []) (o := 178) (by decide +kernel : pcode 137 3 = some (78, 136, 3, 1359, 130)) rfl (Nat.le_of_ble_eq_true rfl) (by decide) (by decide +kernel) rfl rfl rfl,
  fun l1 l2 l3 x0 nx h r s Q  => o_if_ne (by decide +kernel : pcode 137 6 = some (42, 11, 0, 0, 5)),
  fun l1 l2 l3 nx h r s Q  => o_iconst (by decide +kernel : pcode 137 9 = some (1, 0, 0, 0, 0)),
  fun l1 l2 l3 x0 nx h r s Q hz => o_zret (by decide +kernel : pcode 137 10 = some (88, 0, 0, 0, 0)) hz,
  fun l1 l2 l3 nx h r s Q  => o_aload_n (by decide +kernel : pcode 137 11 = some (10, 0, 0, 0, 0)) rfl,
  fun l1 l2 l3 nx h r s Q hw => o_getR (h := (h, r, s)) (by decide +kernel : pcode 137 12 = some (57, 1232, 8, 15, 24)) (by decide) (by decide +kernel) (hw _ (List.mem_of_getElem? (i := 175) rfl)) (by decide),
  fun l1 l2 l3 nx h r s Q  => o_iload_n (by decide +kernel : pcode 137 15 = some (6, 1, 0, 0, 0)) rfl,
  fun l1 l2 l3 x1 nx h r s Q  => o_aload_n (by decide +kernel : pcode 137 16 = some (10, 0, 0, 0, 0)) rfl,
  fun l1 l2 l3 x1 nx h r s Q  => o_getI (by decide +kernel : pcode 137 17 = some (55, 1230, 8, 13, 127)) (by decide) (by decide +kernel),
  fun l1 l2 l3 x1 x2 nx h r s Q hi hn => o_iast (h := (h, r, s)) (n := 164) (by decide +kernel : pcode 137 20 = some (64, 0, 0, 0, 0)) (by decide) (by decide +kernel) hi hn,
  fun l1 l2 l3 nx h r s Q  => o_iconst (by decide +kernel : pcode 137 21 = some (1, 0, 0, 0, 1)),
  fun l1 l2 l3 x0 nx h r s Q hz => o_zret (by decide +kernel : pcode 137 22 = some (88, 0, 0, 0, 0)) hz⟩
set_option maxHeartbeats 4000000 in
set_option maxRecDepth 10000 in
theorem st_X8_closes :
  (∀  (nx : Nat) (h r : PF) (s : Int → Int) (Q : PO → PY → Nat → PC → Prop), (Wp 138 0 [some (pR 178)] [] LY nx (h, r, s) Q ↔ Wp 138 1 [some (pR 178)] [pR 178] LY nx (h, r, s) Q)) ∧
  (∀  (nx : Nat) (h r : PF) (s : Int → Int) (Q : PO → PY → Nat → PC → Prop), (Wp 138 1 [some (pR 178)] [pR 178] LY nx (h, r, s) Q ↔ Wp 138 2 [some (pR 178)] [pI 1, pR 178] LY nx (h, r, s) Q)) ∧
  (∀ (x1 : Int) (nx : Nat) (h r : PF) (s : Int → Int) (Q : PO → PY → Nat → PC → Prop), (Wp 138 2 [some (pR 178)] [pI x1, pR 178] LY nx (h, r, s) Q ↔ Wp 138 3 [some (pR 178)] [pR 178, pI x1, pR 178] LY nx (h, r, s) Q)) ∧
  (∀ (x1 : Int) (nx : Nat) (h r : PF) (s : Int → Int) (Q : PO → PY → Nat → PC → Prop), (Wp 138 3 [some (pR 178)] [pR 178, pI x1, pR 178] LY nx (h, r, s) Q ↔ Wp 138 6 [some (pR 178)] [pI (h 178 8), pI x1, pR 178] LY nx (h, r, s) Q)) ∧
  (∀ (x1 : Int) (x2 : Int) (nx : Nat) (h r : PF) (s : Int → Int) (Q : PO → PY → Nat → PC → Prop), (Wp 138 6 [some (pR 178)] [pI x2, pI x1, pR 178] LY nx (h, r, s) Q ↔ Wp 138 7 [some (pR 178)] [pI 3, pI x2, pI x1, pR 178] LY nx (h, r, s) Q)) ∧
  (∀ (x1 : Int) (x2 : Int) (x3 : Int) (nx : Nat) (h r : PF) (s : Int → Int) (Q : PO → PY → Nat → PC → Prop), (Wp 138 7 [some (pR 178)] [pI x3, pI x2, pI x1, pR 178] LY nx (h, r, s) Q ↔ (if x2 ≠ x3 then Wp 138 14 [some (pR 178)] [pI x1, pR 178] LY nx (h, r, s) Q else Wp 138 10 [some (pR 178)] [pI x1, pR 178] LY nx (h, r, s) Q))) ∧
  (∀ (x1 : Int) (nx : Nat) (h r : PF) (s : Int → Int) (Q : PO → PY → Nat → PC → Prop), (Wp 138 10 [some (pR 178)] [pI x1, pR 178] LY nx (h, r, s) Q ↔ Wp 138 11 [some (pR 178)] [pI 1, pI x1, pR 178] LY nx (h, r, s) Q)) ∧
  (∀ (x1 : Int) (x2 : Int) (nx : Nat) (h r : PF) (s : Int → Int) (Q : PO → PY → Nat → PC → Prop), (Wp 138 11 [some (pR 178)] [pI x2, pI x1, pR 178] LY nx (h, r, s) Q ↔ Wp 138 15 [some (pR 178)] [pI x2, pI x1, pR 178] LY nx (h, r, s) Q)) ∧
  (∀ (x1 : Int) (nx : Nat) (h r : PF) (s : Int → Int) (Q : PO → PY → Nat → PC → Prop), (Wp 138 14 [some (pR 178)] [pI x1, pR 178] LY nx (h, r, s) Q ↔ Wp 138 15 [some (pR 178)] [pI 0, pI x1, pR 178] LY nx (h, r, s) Q)) ∧
  (∀ (x1 : Int) (x2 : Int) (nx : Nat) (h r : PF) (s : Int → Int) (Q : PO → PY → Nat → PC → Prop), (Wp 138 15 [some (pR 178)] [pI x2, pI x1, pR 178] LY nx (h, r, s) Q ↔ Wp 135 0 [some (pR 178), some (pI x1), some (pI x2)] [] LY nx (h, r, s) (Kc 138 15 [some (pR 178)] 18 [] Q))) ∧
  (∀ (x0 : Int) (nx : Nat) (h r : PF) (s : Int → Int) (Q : PO → PY → Nat → PC → Prop), x0 = 0 ∨ x0 = 1 → (Wp 138 18 [some (pR 178)] [pI x0] LY nx (h, r, s) Q ↔ Q (Sum.inl (some (pI x0))) LY nx (h, r, s))) :=
  ⟨fun  nx h r s Q  => o_aload_n (by decide +kernel : pcode 138 0 = some (10, 0, 0, 0, 0)) rfl,
  fun  nx h r s Q  => o_iconst (by decide +kernel : pcode 138 1 = some (1, 0, 0, 0, 1)),
  fun x1 nx h r s Q  => o_aload_n (by decide +kernel : pcode 138 2 = some (10, 0, 0, 0, 0)) rfl,
  fun x1 nx h r s Q  => o_getI (by decide +kernel : pcode 138 3 = some (55, 1225, 8, 8, 101)) (by decide) (by decide +kernel),
  fun x1 x2 nx h r s Q  => o_iconst (by decide +kernel : pcode 138 6 = some (1, 0, 0, 0, 3)),
  fun x1 x2 x3 nx h r s Q  => o_icmp_ne (by decide +kernel : pcode 138 7 = some (48, 14, 0, 0, 7)),
  fun x1 nx h r s Q  => o_iconst (by decide +kernel : pcode 138 10 = some (1, 0, 0, 0, 1)),
  fun x1 x2 nx h r s Q  => o_goto (by decide +kernel : pcode 138 11 = some (53, 15, 0, 0, 4)),
  fun x1 nx h r s Q  => o_iconst (by decide +kernel : pcode 138 14 = some (1, 0, 0, 0, 0)),
  fun x1 x2 nx h r s Q  => o_ivV (s1 := [pI x2, pI x1]) (s2 := []) (o := 178) (by decide +kernel : pcode 138 15 = some (78, 135, 3, 1347, 134)) rfl (Nat.le_of_ble_eq_true rfl) (by decide) (by decide +kernel) rfl rfl rfl,
  fun x0 nx h r s Q hz => o_zret (by decide +kernel : pcode 138 18 = some (88, 0, 0, 0, 0)) hz⟩
set_option maxHeartbeats 4000000 in
set_option maxRecDepth 10000 in
theorem st_X8_named :
  (∀ (l1 : Int) (nx : Nat) (h r : PF) (s : Int → Int) (Q : PO → PY → Nat → PC → Prop), (Wp 139 0 [some (pR 178), some (pJ l1), none, none] [] LY nx (h, r, s) Q ↔ Wp 139 1 [some (pR 178), some (pJ l1), none, none] [pI 0] LY nx (h, r, s) Q)) ∧
  (∀ (l1 : Int) (x0 : Int) (nx : Nat) (h r : PF) (s : Int → Int) (Q : PO → PY → Nat → PC → Prop), (Wp 139 1 [some (pR 178), some (pJ l1), none, none] [pI x0] LY nx (h, r, s) Q ↔ Wp 139 2 [some (pR 178), some (pJ l1), none, some (pI x0)] [] LY nx (h, r, s) Q)) ∧
  (∀ (l1 : Int) (l3 : Int) (x0 : Int) (nx : Nat) (h r : PF) (s : Int → Int) (Q : PO → PY → Nat → PC → Prop), (Wp 139 3 [some (pR 178), some (pJ l1), none, some (pI l3)] [pI x0] LY nx (h, r, s) Q ↔ Wp 139 4 [some (pR 178), some (pJ l1), none, some (pI l3)] [pR 178, pI x0] LY nx (h, r, s) Q)) ∧
  (∀ (l1 : Int) (l3 : Int) (x0 : Int) (nx : Nat) (h r : PF) (s : Int → Int) (Q : PO → PY → Nat → PC → Prop), WFr r → (Wp 139 4 [some (pR 178), some (pJ l1), none, some (pI l3)] [pR 178, pI x0] LY nx (h, r, s) Q ↔ Wp 139 7 [some (pR 178), some (pJ l1), none, some (pI l3)] [pR 182, pI x0] LY nx (h, r, s) Q)) ∧
  (∀ (l1 : Int) (l3 : Int) (x0 : Int) (nx : Nat) (h r : PF) (s : Int → Int) (Q : PO → PY → Nat → PC → Prop), (Wp 139 7 [some (pR 178), some (pJ l1), none, some (pI l3)] [pR 182, pI x0] LY nx (h, r, s) Q ↔ Wp 139 8 [some (pR 178), some (pJ l1), none, some (pI l3)] [pI 1, pR 182, pI x0] LY nx (h, r, s) Q)) ∧
  (∀ (l1 : Int) (l3 : Int) (x0 : Int) (x2 : Int) (nx : Nat) (h r : PF) (s : Int → Int) (Q : PO → PY → Nat → PC → Prop), 0 ≤ x2 → x2 < 164 → (Wp 139 8 [some (pR 178), some (pJ l1), none, some (pI l3)] [pI x2, pR 182, pI x0] LY nx (h, r, s) Q ↔ Wp 139 9 [some (pR 178), some (pJ l1), none, some (pI l3)] [pI (h 182 x2), pI x0] LY nx (h, r, s) Q)) ∧
  (∀ (l1 : Int) (l3 : Int) (x0 : Int) (x1 : Int) (nx : Nat) (h r : PF) (s : Int → Int) (Q : PO → PY → Nat → PC → Prop), (Wp 139 9 [some (pR 178), some (pJ l1), none, some (pI l3)] [pI x1, pI x0] LY nx (h, r, s) Q ↔ (if x1 ≤ x0 then Wp 139 31 [some (pR 178), some (pJ l1), none, some (pI l3)] [] LY nx (h, r, s) Q else Wp 139 12 [some (pR 178), some (pJ l1), none, some (pI l3)] [] LY nx (h, r, s) Q))) ∧
  (∀ (l1 : Int) (l3 : Int) (nx : Nat) (h r : PF) (s : Int → Int) (Q : PO → PY → Nat → PC → Prop), (Wp 139 12 [some (pR 178), some (pJ l1), none, some (pI l3)] [] LY nx (h, r, s) Q ↔ Wp 139 13 [some (pR 178), some (pJ l1), none, some (pI l3)] [pR 178] LY nx (h, r, s) Q)) ∧
  (∀ (l1 : Int) (l3 : Int) (nx : Nat) (h r : PF) (s : Int → Int) (Q : PO → PY → Nat → PC → Prop), WFr r → (Wp 139 13 [some (pR 178), some (pJ l1), none, some (pI l3)] [pR 178] LY nx (h, r, s) Q ↔ Wp 139 16 [some (pR 178), some (pJ l1), none, some (pI l3)] [pR 183] LY nx (h, r, s) Q)) ∧
  (∀ (l1 : Int) (l3 : Int) (nx : Nat) (h r : PF) (s : Int → Int) (Q : PO → PY → Nat → PC → Prop), (Wp 139 16 [some (pR 178), some (pJ l1), none, some (pI l3)] [pR 183] LY nx (h, r, s) Q ↔ Wp 139 17 [some (pR 178), some (pJ l1), none, some (pI l3)] [pI l3, pR 183] LY nx (h, r, s) Q)) ∧
  (∀ (l1 : Int) (l3 : Int) (x1 : Int) (nx : Nat) (h r : PF) (s : Int → Int) (Q : PO → PY → Nat → PC → Prop), 0 ≤ x1 → x1 < 4 → (Wp 139 17 [some (pR 178), some (pJ l1), none, some (pI l3)] [pI x1, pR 183] LY nx (h, r, s) Q ↔ Wp 139 18 [some (pR 178), some (pJ l1), none, some (pI l3)] [pJ (h 183 x1)] LY nx (h, r, s) Q)) ∧
  (∀ (l1 : Int) (l3 : Int) (x0 : Int) (nx : Nat) (h r : PF) (s : Int → Int) (Q : PO → PY → Nat → PC → Prop), (Wp 139 18 [some (pR 178), some (pJ l1), none, some (pI l3)] [pJ x0] LY nx (h, r, s) Q ↔ Wp 139 19 [some (pR 178), some (pJ l1), none, some (pI l3)] [pJ l1, pJ x0] LY nx (h, r, s) Q)) ∧
  (∀ (l1 : Int) (l3 : Int) (x0 : Int) (x1 : Int) (nx : Nat) (h r : PF) (s : Int → Int) (Q : PO → PY → Nat → PC → Prop), (Wp 139 19 [some (pR 178), some (pJ l1), none, some (pI l3)] [pJ x1, pJ x0] LY nx (h, r, s) Q ↔ Wp 139 20 [some (pR 178), some (pJ l1), none, some (pI l3)] [pI (plcmp x0 x1)] LY nx (h, r, s) Q)) ∧
  (∀ (l1 : Int) (l3 : Int) (x0 : Int) (nx : Nat) (h r : PF) (s : Int → Int) (Q : PO → PY → Nat → PC → Prop), (Wp 139 20 [some (pR 178), some (pJ l1), none, some (pI l3)] [pI x0] LY nx (h, r, s) Q ↔ (if x0 ≠ 0 then Wp 139 25 [some (pR 178), some (pJ l1), none, some (pI l3)] [] LY nx (h, r, s) Q else Wp 139 23 [some (pR 178), some (pJ l1), none, some (pI l3)] [] LY nx (h, r, s) Q))) ∧
  (∀ (l1 : Int) (l3 : Int) (nx : Nat) (h r : PF) (s : Int → Int) (Q : PO → PY → Nat → PC → Prop), (Wp 139 23 [some (pR 178), some (pJ l1), none, some (pI l3)] [] LY nx (h, r, s) Q ↔ Wp 139 24 [some (pR 178), some (pJ l1), none, some (pI l3)] [pI l3] LY nx (h, r, s) Q)) ∧
  (∀ (l1 : Int) (l3 : Int) (x0 : Int) (nx : Nat) (h r : PF) (s : Int → Int) (Q : PO → PY → Nat → PC → Prop), (Wp 139 24 [some (pR 178), some (pJ l1), none, some (pI l3)] [pI x0] LY nx (h, r, s) Q ↔ Q (Sum.inl (some (pI x0))) LY nx (h, r, s))) ∧
  (∀ (l1 : Int) (l3 : Int) (nx : Nat) (h r : PF) (s : Int → Int) (Q : PO → PY → Nat → PC → Prop), (Wp 139 25 [some (pR 178), some (pJ l1), none, some (pI l3)] [] LY nx (h, r, s) Q ↔ Wp 139 28 [some (pR 178), some (pJ l1), none, some (pI (w32 (l3 + 1)))] [] LY nx (h, r, s) Q)) ∧
  (∀ (l1 : Int) (l3 : Int) (nx : Nat) (h r : PF) (s : Int → Int) (Q : PO → PY → Nat → PC → Prop), (Wp 139 28 [some (pR 178), some (pJ l1), none, some (pI l3)] [] LY nx (h, r, s) Q ↔ Wp 139 2 [some (pR 178), some (pJ l1), none, some (pI l3)] [] LY nx (h, r, s) Q)) ∧
  (∀ (l1 : Int) (l3 : Int) (nx : Nat) (h r : PF) (s : Int → Int) (Q : PO → PY → Nat → PC → Prop), (Wp 139 31 [some (pR 178), some (pJ l1), none, some (pI l3)] [] LY nx (h, r, s) Q ↔ Wp 139 32 [some (pR 178), some (pJ l1), none, some (pI l3)] [pI (-1)] LY nx (h, r, s) Q)) ∧
  (∀ (l1 : Int) (l3 : Int) (x0 : Int) (nx : Nat) (h r : PF) (s : Int → Int) (Q : PO → PY → Nat → PC → Prop), (Wp 139 32 [some (pR 178), some (pJ l1), none, some (pI l3)] [pI x0] LY nx (h, r, s) Q ↔ Q (Sum.inl (some (pI x0))) LY nx (h, r, s))) :=
  ⟨fun l1 nx h r s Q  => o_iconst (by decide +kernel : pcode 139 0 = some (1, 0, 0, 0, 0)),
  fun l1 x0 nx h r s Q  => o_istore_n (by decide +kernel : pcode 139 1 = some (12, 3, 1, 0, 0)) rfl,
  fun l1 l3 x0 nx h r s Q  => o_aload_n (by decide +kernel : pcode 139 3 = some (10, 0, 0, 0, 0)) rfl,
  fun l1 l3 x0 nx h r s Q hw => o_getR (h := (h, r, s)) (by decide +kernel : pcode 139 4 = some (57, 1232, 8, 15, 24)) (by decide) (by decide +kernel) (hw _ (List.mem_of_getElem? (i := 175) rfl)) (by decide),
  fun l1 l3 x0 nx h r s Q  => o_iconst (by decide +kernel : pcode 139 7 = some (1, 0, 0, 0, 1)),
  fun l1 l3 x0 x2 nx h r s Q hi hn => o_iald (h := (h, r, s)) (n := 164) (by decide +kernel : pcode 139 8 = some (63, 0, 0, 0, 0)) (by decide) (by decide +kernel) hi hn,
  fun l1 l3 x0 x1 nx h r s Q  => o_icmp_ge (by decide +kernel : pcode 139 9 = some (50, 31, 0, 0, 22)),
  fun l1 l3 nx h r s Q  => o_aload_n (by decide +kernel : pcode 139 12 = some (10, 0, 0, 0, 0)) rfl,
  fun l1 l3 nx h r s Q hw => o_getR (h := (h, r, s)) (by decide +kernel : pcode 139 13 = some (57, 1233, 8, 16, 27)) (by decide) (by decide +kernel) (hw _ (List.mem_of_getElem? (i := 176) rfl)) (by decide),
  fun l1 l3 nx h r s Q  => o_iload_n (by decide +kernel : pcode 139 16 = some (6, 3, 0, 0, 0)) rfl,
  fun l1 l3 x1 nx h r s Q hi hn => o_lald (h := (h, r, s)) (n := 4) (by decide +kernel : pcode 139 17 = some (65, 0, 0, 0, 0)) (by decide) (by decide +kernel) hi hn,
  fun l1 l3 x0 nx h r s Q  => o_lload_n (by decide +kernel : pcode 139 18 = some (8, 1, 0, 0, 0)) rfl,
  fun l1 l3 x0 x1 nx h r s Q  => o_lcmp (by decide +kernel : pcode 139 19 = some (34, 0, 0, 0, 0)),
  fun l1 l3 x0 nx h r s Q  => o_if_ne (by decide +kernel : pcode 139 20 = some (42, 25, 0, 0, 5)),
  fun l1 l3 nx h r s Q  => o_iload_n (by decide +kernel : pcode 139 23 = some (6, 3, 0, 0, 0)) rfl,
  fun l1 l3 x0 nx h r s Q  => o_iret (by decide +kernel : pcode 139 24 = some (87, 0, 0, 0, 0)),
  fun l1 l3 nx h r s Q  => o_iinc (by decide +kernel : pcode 139 25 = some (18, 3, 1, 0, 1)) rfl rfl,
  fun l1 l3 nx h r s Q  => o_goto (by decide +kernel : pcode 139 28 = some (53, 2, 0, 0, -26)),
  fun l1 l3 nx h r s Q  => o_iconst (by decide +kernel : pcode 139 31 = some (1, 0, 0, 0, -1)),
  fun l1 l3 x0 nx h r s Q  => o_iret (by decide +kernel : pcode 139 32 = some (87, 0, 0, 0, 0))⟩
theorem sh_X8_named_2 {l1 : Int} {l3 : Int} {nx : Nat} {h r : PF} {s : Int → Int} {Q : PO → PY → Nat → PC → Prop} : (Wp 139 2 [some (pR 178), some (pJ l1), none, some (pI l3)] [] LY nx (h, r, s) Q ↔ Wp 139 3 [some (pR 178), some (pJ l1), none, some (pI l3)] [pI l3] LY nx (h, r, s) Q) := o_iload_n (by decide +kernel : pcode 139 2 = some (6, 3, 0, 0, 0)) rfl
set_option maxHeartbeats 4000000 in
set_option maxRecDepth 10000 in
theorem st_X8_machineLine_0 :
  (∀  (nx : Nat) (h r : PF) (s : Int → Int) (Q : PO → PY → Nat → PC → Prop), (Wp 140 0 [some (pR 178), none, none, none, none] [] LY nx (h, r, s) Q ↔ Wp 140 1 [some (pR 178), none, none, none, none] [pR 178] LY nx (h, r, s) Q)) ∧
  (∀  (nx : Nat) (h r : PF) (s : Int → Int) (Q : PO → PY → Nat → PC → Prop), WFr r → (Wp 140 1 [some (pR 178), none, none, none, none] [pR 178] LY nx (h, r, s) Q ↔ Wp 140 4 [some (pR 178), none, none, none, none] [pR 182] LY nx (h, r, s) Q)) ∧
  (∀  (nx : Nat) (h r : PF) (s : Int → Int) (Q : PO → PY → Nat → PC → Prop), (Wp 140 4 [some (pR 178), none, none, none, none] [pR 182] LY nx (h, r, s) Q ↔ Wp 140 5 [some (pR 178), none, none, none, none] [pI 1, pR 182] LY nx (h, r, s) Q)) ∧
  (∀ (x1 : Int) (nx : Nat) (h r : PF) (s : Int → Int) (Q : PO → PY → Nat → PC → Prop), 0 ≤ x1 → x1 < 164 → (Wp 140 5 [some (pR 178), none, none, none, none] [pI x1, pR 182] LY nx (h, r, s) Q ↔ Wp 140 6 [some (pR 178), none, none, none, none] [pI (h 182 x1)] LY nx (h, r, s) Q)) ∧
  (∀ (x0 : Int) (nx : Nat) (h r : PF) (s : Int → Int) (Q : PO → PY → Nat → PC → Prop), (Wp 140 6 [some (pR 178), none, none, none, none] [pI x0] LY nx (h, r, s) Q ↔ Wp 140 7 [some (pR 178), some (pI x0), none, none, none] [] LY nx (h, r, s) Q)) ∧
  (∀ (l1 : Int) (nx : Nat) (h r : PF) (s : Int → Int) (Q : PO → PY → Nat → PC → Prop), (Wp 140 7 [some (pR 178), some (pI l1), none, none, none] [] LY nx (h, r, s) Q ↔ Wp 140 8 [some (pR 178), some (pI l1), none, none, none] [pR 178] LY nx (h, r, s) Q)) ∧
  (∀ (l1 : Int) (nx : Nat) (h r : PF) (s : Int → Int) (Q : PO → PY → Nat → PC → Prop), (Wp 140 8 [some (pR 178), some (pI l1), none, none, none] [pR 178] LY nx (h, r, s) Q ↔ Wp 140 9 [some (pR 178), some (pI l1), none, none, none] [pI 5, pR 178] LY nx (h, r, s) Q)) ∧
  (∀ (l1 : Int) (x1 : Int) (nx : Nat) (h r : PF) (s : Int → Int) (Q : PO → PY → Nat → PC → Prop), (Wp 140 9 [some (pR 178), some (pI l1), none, none, none] [pI x1, pR 178] LY nx (h, r, s) Q ↔ Wp 140 10 [some (pR 178), some (pI l1), none, none, none] [pI l1, pI x1, pR 178] LY nx (h, r, s) Q)) ∧
  (∀ (l1 : Int) (x1 : Int) (x2 : Int) (nx : Nat) (h r : PF) (s : Int → Int) (Q : PO → PY → Nat → PC → Prop), (Wp 140 10 [some (pR 178), some (pI l1), none, none, none] [pI x2, pI x1, pR 178] LY nx (h, r, s) Q ↔ Wp 140 11 [some (pR 178), some (pI l1), none, none, none] [pI 4, pI x2, pI x1, pR 178] LY nx (h, r, s) Q)) ∧
  (∀ (l1 : Int) (x1 : Int) (x2 : Int) (x3 : Int) (nx : Nat) (h r : PF) (s : Int → Int) (Q : PO → PY → Nat → PC → Prop), (Wp 140 11 [some (pR 178), some (pI l1), none, none, none] [pI x3, pI x2, pI x1, pR 178] LY nx (h, r, s) Q ↔ (if x3 ≤ x2 then Wp 140 18 [some (pR 178), some (pI l1), none, none, none] [pI x1, pR 178] LY nx (h, r, s) Q else Wp 140 14 [some (pR 178), some (pI l1), none, none, none] [pI x1, pR 178] LY nx (h, r, s) Q))) ∧
  (∀ (l1 : Int) (x1 : Int) (nx : Nat) (h r : PF) (s : Int → Int) (Q : PO → PY → Nat → PC → Prop), (Wp 140 14 [some (pR 178), some (pI l1), none, none, none] [pI x1, pR 178] LY nx (h, r, s) Q ↔ Wp 140 15 [some (pR 178), some (pI l1), none, none, none] [pI 1, pI x1, pR 178] LY nx (h, r, s) Q)) ∧
  (∀ (l1 : Int) (x1 : Int) (x2 : Int) (nx : Nat) (h r : PF) (s : Int → Int) (Q : PO → PY → Nat → PC → Prop), (Wp 140 15 [some (pR 178), some (pI l1), none, none, none] [pI x2, pI x1, pR 178] LY nx (h, r, s) Q ↔ Wp 140 19 [some (pR 178), some (pI l1), none, none, none] [pI x2, pI x1, pR 178] LY nx (h, r, s) Q)) ∧
  (∀ (l1 : Int) (x1 : Int) (nx : Nat) (h r : PF) (s : Int → Int) (Q : PO → PY → Nat → PC → Prop), (Wp 140 18 [some (pR 178), some (pI l1), none, none, none] [pI x1, pR 178] LY nx (h, r, s) Q ↔ Wp 140 19 [some (pR 178), some (pI l1), none, none, none] [pI 0, pI x1, pR 178] LY nx (h, r, s) Q)) ∧
  (∀ (l1 : Int) (x1 : Int) (x2 : Int) (nx : Nat) (h r : PF) (s : Int → Int) (Q : PO → PY → Nat → PC → Prop), (Wp 140 19 [some (pR 178), some (pI l1), none, none, none] [pI x2, pI x1, pR 178] LY nx (h, r, s) Q ↔ Wp 135 0 [some (pR 178), some (pI x1), some (pI x2)] [] LY nx (h, r, s) (Kc 140 19 [some (pR 178), some (pI l1), none, none, none] 22 [] Q))) ∧
  (∀ (l1 : Int) (x0 : Int) (nx : Nat) (h r : PF) (s : Int → Int) (Q : PO → PY → Nat → PC → Prop), (Wp 140 22 [some (pR 178), some (pI l1), none, none, none] [pI x0] LY nx (h, r, s) Q ↔ (if x0 ≠ 0 then Wp 140 27 [some (pR 178), some (pI l1), none, none, none] [] LY nx (h, r, s) Q else Wp 140 25 [some (pR 178), some (pI l1), none, none, none] [] LY nx (h, r, s) Q))) ∧
  (∀ (l1 : Int) (nx : Nat) (h r : PF) (s : Int → Int) (Q : PO → PY → Nat → PC → Prop), (Wp 140 25 [some (pR 178), some (pI l1), none, none, none] [] LY nx (h, r, s) Q ↔ Wp 140 26 [some (pR 178), some (pI l1), none, none, none] [pI 0] LY nx (h, r, s) Q)) ∧
  (∀ (l1 : Int) (x0 : Int) (nx : Nat) (h r : PF) (s : Int → Int) (Q : PO → PY → Nat → PC → Prop), x0 = 0 ∨ x0 = 1 → (Wp 140 26 [some (pR 178), some (pI l1), none, none, none] [pI x0] LY nx (h, r, s) Q ↔ Q (Sum.inl (some (pI x0))) LY nx (h, r, s))) ∧
  (∀ (l1 : Int) (nx : Nat) (h r : PF) (s : Int → Int) (Q : PO → PY → Nat → PC → Prop), (Wp 140 27 [some (pR 178), some (pI l1), none, none, none] [] LY nx (h, r, s) Q ↔ Wp 140 28 [some (pR 178), some (pI l1), none, none, none] [pR 178] LY nx (h, r, s) Q)) ∧
  (∀ (l1 : Int) (nx : Nat) (h r : PF) (s : Int → Int) (Q : PO → PY → Nat → PC → Prop), (Wp 140 28 [some (pR 178), some (pI l1), none, none, none] [pR 178] LY nx (h, r, s) Q ↔ Wp 140 31 [some (pR 178), some (pI l1), none, none, none] [pI (h 178 8)] LY nx (h, r, s) Q)) ∧
  (∀ (l1 : Int) (x0 : Int) (nx : Nat) (h r : PF) (s : Int → Int) (Q : PO → PY → Nat → PC → Prop), (Wp 140 31 [some (pR 178), some (pI l1), none, none, none] [pI x0] LY nx (h, r, s) Q ↔ Wp 140 32 [some (pR 178), some (pI l1), none, none, none] [pI 1, pI x0] LY nx (h, r, s) Q)) ∧
  (∀ (l1 : Int) (x0 : Int) (x1 : Int) (nx : Nat) (h r : PF) (s : Int → Int) (Q : PO → PY → Nat → PC → Prop), (Wp 140 32 [some (pR 178), some (pI l1), none, none, none] [pI x1, pI x0] LY nx (h, r, s) Q ↔ (if x0 = x1 then Wp 140 41 [some (pR 178), some (pI l1), none, none, none] [] LY nx (h, r, s) Q else Wp 140 35 [some (pR 178), some (pI l1), none, none, none] [] LY nx (h, r, s) Q))) ∧
  (∀ (l1 : Int) (nx : Nat) (h r : PF) (s : Int → Int) (Q : PO → PY → Nat → PC → Prop), (Wp 140 35 [some (pR 178), some (pI l1), none, none, none] [] LY nx (h, r, s) Q ↔ Wp 140 36 [some (pR 178), some (pI l1), none, none, none] [pR 178] LY nx (h, r, s) Q)) ∧
  (∀ (l1 : Int) (nx : Nat) (h r : PF) (s : Int → Int) (Q : PO → PY → Nat → PC → Prop), (Wp 140 36 [some (pR 178), some (pI l1), none, none, none] [pR 178] LY nx (h, r, s) Q ↔ Wp 140 37 [some (pR 178), some (pI l1), none, none, none] [pI 1, pR 178] LY nx (h, r, s) Q)) ∧
  (∀ (l1 : Int) (x1 : Int) (nx : Nat) (h r : PF) (s : Int → Int) (Q : PO → PY → Nat → PC → Prop), (Wp 140 37 [some (pR 178), some (pI l1), none, none, none] [pI x1, pR 178] LY nx (h, r, s) Q ↔ Wp 134 0 [some (pR 178), some (pI x1)] [] LY nx (h, r, s) (Kc 140 37 [some (pR 178), some (pI l1), none, none, none] 40 [] Q))) ∧
  (∀ (l1 : Int) (x0 : Int) (nx : Nat) (h r : PF) (s : Int → Int) (Q : PO → PY → Nat → PC → Prop), x0 = 0 ∨ x0 = 1 → (Wp 140 40 [some (pR 178), some (pI l1), none, none, none] [pI x0] LY nx (h, r, s) Q ↔ Q (Sum.inl (some (pI x0))) LY nx (h, r, s))) ∧
  (∀ (l1 : Int) (nx : Nat) (h r : PF) (s : Int → Int) (Q : PO → PY → Nat → PC → Prop), (Wp 140 41 [some (pR 178), some (pI l1), none, none, none] [] LY nx (h, r, s) Q ↔ Wp 140 42 [some (pR 178), some (pI l1), none, none, none] [pR 178] LY nx (h, r, s) Q)) ∧
  (∀ (l1 : Int) (nx : Nat) (h r : PF) (s : Int → Int) (Q : PO → PY → Nat → PC → Prop), (Wp 140 42 [some (pR 178), some (pI l1), none, none, none] [pR 178] LY nx (h, r, s) Q ↔ Wp 140 45 [some (pR 178), some (pI l1), none, none, none] [pJ (h 178 10)] LY nx (h, r, s) Q)) ∧
  (∀ (l1 : Int) (x0 : Int) (nx : Nat) (h r : PF) (s : Int → Int) (Q : PO → PY → Nat → PC → Prop), (Wp 140 45 [some (pR 178), some (pI l1), none, none, none] [pJ x0] LY nx (h, r, s) Q ↔ Wp 140 46 [some (pR 178), some (pI l1), some (pJ x0), none, none] [] LY nx (h, r, s) Q)) ∧
  (∀ (l1 : Int) (l2 : Int) (nx : Nat) (h r : PF) (s : Int → Int) (Q : PO → PY → Nat → PC → Prop), (Wp 140 46 [some (pR 178), some (pI l1), some (pJ l2), none, none] [] LY nx (h, r, s) Q ↔ Wp 140 47 [some (pR 178), some (pI l1), some (pJ l2), none, none] [pR 178] LY nx (h, r, s) Q)) ∧
  (∀ (l1 : Int) (l2 : Int) (nx : Nat) (h r : PF) (s : Int → Int) (Q : PO → PY → Nat → PC → Prop), (Wp 140 47 [some (pR 178), some (pI l1), some (pJ l2), none, none] [pR 178] LY nx (h, r, s) Q ↔ Wp 140 48 [some (pR 178), some (pI l1), some (pJ l2), none, none] [pI 2, pR 178] LY nx (h, r, s) Q)) ∧
  (∀ (l1 : Int) (l2 : Int) (x1 : Int) (nx : Nat) (h r : PF) (s : Int → Int) (Q : PO → PY → Nat → PC → Prop), (Wp 140 48 [some (pR 178), some (pI l1), some (pJ l2), none, none] [pI x1, pR 178] LY nx (h, r, s) Q ↔ Wp 140 49 [some (pR 178), some (pI l1), some (pJ l2), none, none] [pR 178, pI x1, pR 178] LY nx (h, r, s) Q)) ∧
  (∀ (l1 : Int) (l2 : Int) (x1 : Int) (nx : Nat) (h r : PF) (s : Int → Int) (Q : PO → PY → Nat → PC → Prop), (Wp 140 49 [some (pR 178), some (pI l1), some (pJ l2), none, none] [pR 178, pI x1, pR 178] LY nx (h, r, s) Q ↔ Wp 140 50 [some (pR 178), some (pI l1), some (pJ l2), none, none] [pJ l2, pR 178, pI x1, pR 178] LY nx (h, r, s) Q)) ∧
  (∀ (l1 : Int) (l2 : Int) (x1 : Int) (x3 : Int) (nx : Nat) (h r : PF) (s : Int → Int) (Q : PO → PY → Nat → PC → Prop), (Wp 140 50 [some (pR 178), some (pI l1), some (pJ l2), none, none] [pJ x3, pR 178, pI x1, pR 178] LY nx (h, r, s) Q ↔ Wp 139 0 [some (pR 178), some (pJ x3), none, none] [] LY nx (h, r, s) (Kc 140 50 [some (pR 178), some (pI l1), some (pJ l2), none, none] 53 [pI x1, pR 178] Q))) ∧
  (∀ (l1 : Int) (l2 : Int) (x1 : Int) (x2 : Int) (nx : Nat) (h r : PF) (s : Int → Int) (Q : PO → PY → Nat → PC → Prop), (Wp 140 53 [some (pR 178), some (pI l1), some (pJ l2), none, none] [pI x2, pI x1, pR 178] LY nx (h, r, s) Q ↔ Wp 140 54 [some (pR 178), some (pI l1), some (pJ l2), none, none] [pI (-1), pI x2, pI x1, pR 178] LY nx (h, r, s) Q)) ∧
  (∀ (l1 : Int) (l2 : Int) (x1 : Int) (x2 : Int) (x3 : Int) (nx : Nat) (h r : PF) (s : Int → Int) (Q : PO → PY → Nat → PC → Prop), (Wp 140 54 [some (pR 178), some (pI l1), some (pJ l2), none, none] [pI x3, pI x2, pI x1, pR 178] LY nx (h, r, s) Q ↔ (if x2 ≠ x3 then Wp 140 61 [some (pR 178), some (pI l1), some (pJ l2), none, none] [pI x1, pR 178] LY nx (h, r, s) Q else Wp 140 57 [some (pR 178), some (pI l1), some (pJ l2), none, none] [pI x1, pR 178] LY nx (h, r, s) Q))) ∧
  (∀ (l1 : Int) (l2 : Int) (x1 : Int) (nx : Nat) (h r : PF) (s : Int → Int) (Q : PO → PY → Nat → PC → Prop), (Wp 140 57 [some (pR 178), some (pI l1), some (pJ l2), none, none] [pI x1, pR 178] LY nx (h, r, s) Q ↔ Wp 140 58 [some (pR 178), some (pI l1), some (pJ l2), none, none] [pI 1, pI x1, pR 178] LY nx (h, r, s) Q)) ∧
  (∀ (l1 : Int) (l2 : Int) (x1 : Int) (x2 : Int) (nx : Nat) (h r : PF) (s : Int → Int) (Q : PO → PY → Nat → PC → Prop), (Wp 140 58 [some (pR 178), some (pI l1), some (pJ l2), none, none] [pI x2, pI x1, pR 178] LY nx (h, r, s) Q ↔ Wp 140 62 [some (pR 178), some (pI l1), some (pJ l2), none, none] [pI x2, pI x1, pR 178] LY nx (h, r, s) Q)) ∧
  (∀ (l1 : Int) (l2 : Int) (x1 : Int) (nx : Nat) (h r : PF) (s : Int → Int) (Q : PO → PY → Nat → PC → Prop), (Wp 140 61 [some (pR 178), some (pI l1), some (pJ l2), none, none] [pI x1, pR 178] LY nx (h, r, s) Q ↔ Wp 140 62 [some (pR 178), some (pI l1), some (pJ l2), none, none] [pI 0, pI x1, pR 178] LY nx (h, r, s) Q)) ∧
  (∀ (l1 : Int) (l2 : Int) (x1 : Int) (x2 : Int) (nx : Nat) (h r : PF) (s : Int → Int) (Q : PO → PY → Nat → PC → Prop), (Wp 140 62 [some (pR 178), some (pI l1), some (pJ l2), none, none] [pI x2, pI x1, pR 178] LY nx (h, r, s) Q ↔ Wp 135 0 [some (pR 178), some (pI x1), some (pI x2)] [] LY nx (h, r, s) (Kc 140 62 [some (pR 178), some (pI l1), some (pJ l2), none, none] 65 [] Q))) ∧
  (∀ (l1 : Int) (l2 : Int) (x0 : Int) (nx : Nat) (h r : PF) (s : Int → Int) (Q : PO → PY → Nat → PC → Prop), (Wp 140 65 [some (pR 178), some (pI l1), some (pJ l2), none, none] [pI x0] LY nx (h, r, s) Q ↔ (if x0 ≠ 0 then Wp 140 70 [some (pR 178), some (pI l1), some (pJ l2), none, none] [] LY nx (h, r, s) Q else Wp 140 68 [some (pR 178), some (pI l1), some (pJ l2), none, none] [] LY nx (h, r, s) Q))) ∧
  (∀ (l1 : Int) (l2 : Int) (nx : Nat) (h r : PF) (s : Int → Int) (Q : PO → PY → Nat → PC → Prop), (Wp 140 68 [some (pR 178), some (pI l1), some (pJ l2), none, none] [] LY nx (h, r, s) Q ↔ Wp 140 69 [some (pR 178), some (pI l1), some (pJ l2), none, none] [pI 0] LY nx (h, r, s) Q)) ∧
  (∀ (l1 : Int) (l2 : Int) (x0 : Int) (nx : Nat) (h r : PF) (s : Int → Int) (Q : PO → PY → Nat → PC → Prop), x0 = 0 ∨ x0 = 1 → (Wp 140 69 [some (pR 178), some (pI l1), some (pJ l2), none, none] [pI x0] LY nx (h, r, s) Q ↔ Q (Sum.inl (some (pI x0))) LY nx (h, r, s))) ∧
  (∀ (l1 : Int) (l2 : Int) (nx : Nat) (h r : PF) (s : Int → Int) (Q : PO → PY → Nat → PC → Prop), (Wp 140 70 [some (pR 178), some (pI l1), some (pJ l2), none, none] [] LY nx (h, r, s) Q ↔ Wp 140 71 [some (pR 178), some (pI l1), some (pJ l2), none, none] [pR 178] LY nx (h, r, s) Q)) ∧
  (∀ (l1 : Int) (l2 : Int) (nx : Nat) (h r : PF) (s : Int → Int) (Q : PO → PY → Nat → PC → Prop), WFr r → (Wp 140 71 [some (pR 178), some (pI l1), some (pJ l2), none, none] [pR 178] LY nx (h, r, s) Q ↔ Wp 140 74 [some (pR 178), some (pI l1), some (pJ l2), none, none] [pR 183] LY nx (h, r, s) Q)) ∧
  (∀ (l1 : Int) (l2 : Int) (nx : Nat) (h r : PF) (s : Int → Int) (Q : PO → PY → Nat → PC → Prop), (Wp 140 74 [some (pR 178), some (pI l1), some (pJ l2), none, none] [pR 183] LY nx (h, r, s) Q ↔ Wp 140 75 [some (pR 178), some (pI l1), some (pJ l2), none, none] [pI l1, pR 183] LY nx (h, r, s) Q)) ∧
  (∀ (l1 : Int) (l2 : Int) (x1 : Int) (nx : Nat) (h r : PF) (s : Int → Int) (Q : PO → PY → Nat → PC → Prop), (Wp 140 75 [some (pR 178), some (pI l1), some (pJ l2), none, none] [pI x1, pR 183] LY nx (h, r, s) Q ↔ Wp 140 76 [some (pR 178), some (pI l1), some (pJ l2), none, none] [pJ l2, pI x1, pR 183] LY nx (h, r, s) Q)) ∧
  (∀ (l1 : Int) (l2 : Int) (x1 : Int) (x2 : Int) (nx : Nat) (h r : PF) (s : Int → Int) (Q : PO → PY → Nat → PC → Prop), 0 ≤ x1 → x1 < 4 → (Wp 140 76 [some (pR 178), some (pI l1), some (pJ l2), none, none] [pJ x2, pI x1, pR 183] LY nx (h, r, s) Q ↔ Wp 140 77 [some (pR 178), some (pI l1), some (pJ l2), none, none] [] LY nx (fup h 183 x1 x2, r, s) Q)) ∧
  (∀ (l1 : Int) (l2 : Int) (nx : Nat) (h r : PF) (s : Int → Int) (Q : PO → PY → Nat → PC → Prop), (Wp 140 77 [some (pR 178), some (pI l1), some (pJ l2), none, none] [] LY nx (h, r, s) Q ↔ Wp 140 78 [some (pR 178), some (pI l1), some (pJ l2), none, none] [pI 4] LY nx (h, r, s) Q)) ∧
  (∀ (l1 : Int) (l2 : Int) (x0 : Int) (nx : Nat) (h r : PF) (s : Int → Int) (Q : PO → PY → Nat → PC → Prop), (Wp 140 78 [some (pR 178), some (pI l1), some (pJ l2), none, none] [pI x0] LY nx (h, r, s) Q ↔ Wp 140 80 [some (pR 178), some (pI l1), some (pJ l2), none, none] [pI 40, pI x0] LY nx (h, r, s) Q)) ∧
  (∀ (l1 : Int) (l2 : Int) (x0 : Int) (x1 : Int) (nx : Nat) (h r : PF) (s : Int → Int) (Q : PO → PY → Nat → PC → Prop), (Wp 140 80 [some (pR 178), some (pI l1), some (pJ l2), none, none] [pI x1, pI x0] LY nx (h, r, s) Q ↔ Wp 140 81 [some (pR 178), some (pI l1), some (pJ l2), none, none] [pI l1, pI x1, pI x0] LY nx (h, r, s) Q)) ∧
  (∀ (l1 : Int) (l2 : Int) (x0 : Int) (x1 : Int) (x2 : Int) (nx : Nat) (h r : PF) (s : Int → Int) (Q : PO → PY → Nat → PC → Prop), (Wp 140 81 [some (pR 178), some (pI l1), some (pJ l2), none, none] [pI x2, pI x1, pI x0] LY nx (h, r, s) Q ↔ Wp 140 82 [some (pR 178), some (pI l1), some (pJ l2), none, none] [pI (w32 (x1 * x2)), pI x0] LY nx (h, r, s) Q)) ∧
  (∀ (l1 : Int) (l2 : Int) (x0 : Int) (x1 : Int) (nx : Nat) (h r : PF) (s : Int → Int) (Q : PO → PY → Nat → PC → Prop), (Wp 140 82 [some (pR 178), some (pI l1), some (pJ l2), none, none] [pI x1, pI x0] LY nx (h, r, s) Q ↔ Wp 140 83 [some (pR 178), some (pI l1), some (pJ l2), none, none] [pI (w32 (x0 + x1))] LY nx (h, r, s) Q)) ∧
  (∀ (l1 : Int) (l2 : Int) (x0 : Int) (nx : Nat) (h r : PF) (s : Int → Int) (Q : PO → PY → Nat → PC → Prop), (Wp 140 83 [some (pR 178), some (pI l1), some (pJ l2), none, none] [pI x0] LY nx (h, r, s) Q ↔ Wp 140 85 [some (pR 178), some (pI l1), some (pJ l2), none, some (pI x0)] [] LY nx (h, r, s) Q)) ∧
  (∀ (l1 : Int) (l2 : Int) (l4 : Int) (nx : Nat) (h r : PF) (s : Int → Int) (Q : PO → PY → Nat → PC → Prop), (Wp 140 85 [some (pR 178), some (pI l1), some (pJ l2), none, some (pI l4)] [] LY nx (h, r, s) Q ↔ Wp 140 86 [some (pR 178), some (pI l1), some (pJ l2), none, some (pI l4)] [pR 178] LY nx (h, r, s) Q)) ∧
  (∀ (l1 : Int) (l2 : Int) (l4 : Int) (nx : Nat) (h r : PF) (s : Int → Int) (Q : PO → PY → Nat → PC → Prop), (Wp 140 86 [some (pR 178), some (pI l1), some (pJ l2), none, some (pI l4)] [pR 178] LY nx (h, r, s) Q ↔ Wp 140 88 [some (pR 178), some (pI l1), some (pJ l2), none, some (pI l4)] [pI l4, pR 178] LY nx (h, r, s) Q)) ∧
  (∀ (l1 : Int) (l2 : Int) (l4 : Int) (x1 : Int) (nx : Nat) (h r : PF) (s : Int → Int) (Q : PO → PY → Nat → PC → Prop), (Wp 140 88 [some (pR 178), some (pI l1), some (pJ l2), none, some (pI l4)] [pI x1, pR 178] LY nx (h, r, s) Q ↔ Wp 140 89 [some (pR 178), some (pI l1), some (pJ l2), none, some (pI l4)] [pI 0, pI x1, pR 178] LY nx (h, r, s) Q)) ∧
  (∀ (l1 : Int) (l2 : Int) (l4 : Int) (x1 : Int) (x2 : Int) (nx : Nat) (h r : PF) (s : Int → Int) (Q : PO → PY → Nat → PC → Prop), (Wp 140 89 [some (pR 178), some (pI l1), some (pJ l2), none, some (pI l4)] [pI x2, pI x1, pR 178] LY nx (h, r, s) Q ↔ Wp 140 90 [some (pR 178), some (pI l1), some (pJ l2), none, some (pI l4)] [pI (w32 (x1 + x2)), pR 178] LY nx (h, r, s) Q)) ∧
  (∀ (l1 : Int) (l2 : Int) (l4 : Int) (x1 : Int) (nx : Nat) (h r : PF) (s : Int → Int) (Q : PO → PY → Nat → PC → Prop), (Wp 140 90 [some (pR 178), some (pI l1), some (pJ l2), none, some (pI l4)] [pI x1, pR 178] LY nx (h, r, s) Q ↔ Wp 140 91 [some (pR 178), some (pI l1), some (pJ l2), none, some (pI l4)] [pI 0, pI x1, pR 178] LY nx (h, r, s) Q)) ∧
  (∀ (l1 : Int) (l2 : Int) (l4 : Int) (x1 : Int) (x2 : Int) (nx : Nat) (h r : PF) (s : Int → Int) (Q : PO → PY → Nat → PC → Prop), (Wp 140 91 [some (pR 178), some (pI l1), some (pJ l2), none, some (pI l4)] [pI x2, pI x1, pR 178] LY nx (h, r, s) Q ↔ Wp 140 94 [some (pR 178), some (pI l1), some (pJ l2), none, some (pI l4)] [pI 999, pI x2, pI x1, pR 178] LY nx (h, r, s) Q)) ∧
  (∀ (l1 : Int) (l2 : Int) (l4 : Int) (x1 : Int) (x2 : Int) (x3 : Int) (nx : Nat) (h r : PF) (s : Int → Int) (Q : PO → PY → Nat → PC → Prop), (Wp 140 94 [some (pR 178), some (pI l1), some (pJ l2), none, some (pI l4)] [pI x3, pI x2, pI x1, pR 178] LY nx (h, r, s) Q ↔ Wp 137 0 [some (pR 178), some (pI x1), some (pI x2), some (pI x3)] [] LY nx (h, r, s) (Kc 140 94 [some (pR 178), some (pI l1), some (pJ l2), none, some (pI l4)] 97 [] Q))) :=
  ⟨fun  nx h r s Q  => o_aload_n (by decide +kernel : pcode 140 0 = some (10, 0, 0, 0, 0)) rfl,
  fun  nx h r s Q hw => o_getR (h := (h, r, s)) (by decide +kernel : pcode 140 1 = some (57, 1232, 8, 15, 24)) (by decide) (by decide +kernel) (hw _ (List.mem_of_getElem? (i := 175) rfl)) (by decide),
  fun  nx h r s Q  => o_iconst (by decide +kernel : pcode 140 4 = some (1, 0, 0, 0, 1)),
  fun x1 nx h r s Q hi hn => o_iald (h := (h, r, s)) (n := 164) (by decide +kernel : pcode 140 5 = some (63, 0, 0, 0, 0)) (by decide) (by decide +kernel) hi hn,
  fun x0 nx h r s Q  => o_istore_n (by decide +kernel : pcode 140 6 = some (12, 1, 1, 0, 0)) rfl,
  fun l1 nx h r s Q  => o_aload_n (by decide +kernel : pcode 140 7 = some (10, 0, 0, 0, 0)) rfl,
  fun l1 nx h r s Q  => o_iconst (by decide +kernel : pcode 140 8 = some (1, 0, 0, 0, 5)),
  fun l1 x1 nx h r s Q  => o_iload_n (by decide +kernel : pcode 140 9 = some (6, 1, 0, 0, 0)) rfl,
  fun l1 x1 x2 nx h r s Q  => o_iconst (by decide +kernel : pcode 140 10 = some (1, 0, 0, 0, 4)),
  fun l1 x1 x2 x3 nx h r s Q  => o_icmp_ge (by decide +kernel : pcode 140 11 = some (50, 18, 0, 0, 7)),
  fun l1 x1 nx h r s Q  => o_iconst (by decide +kernel : pcode 140 14 = some (1, 0, 0, 0, 1)),
  fun l1 x1 x2 nx h r s Q  => o_goto (by decide +kernel : pcode 140 15 = some (53, 19, 0, 0, 4)),
  fun l1 x1 nx h r s Q  => o_iconst (by decide +kernel : pcode 140 18 = some (1, 0, 0, 0, 0)),
  fun l1 x1 x2 nx h r s Q  => o_ivV (s1 := [pI x2, pI x1]) (s2 := []) (o := 178) (by decide +kernel : pcode 140 19 = some (78, 135, 3, 1347, 134)) rfl (Nat.le_of_ble_eq_true rfl) (by decide) (by decide +kernel) rfl rfl rfl,
  fun l1 x0 nx h r s Q  => o_if_ne (by decide +kernel : pcode 140 22 = some (42, 27, 0, 0, 5)),
  fun l1 nx h r s Q  => o_iconst (by decide +kernel : pcode 140 25 = some (1, 0, 0, 0, 0)),
  fun l1 x0 nx h r s Q hz => o_zret (by decide +kernel : pcode 140 26 = some (88, 0, 0, 0, 0)) hz,
  fun l1 nx h r s Q  => o_aload_n (by decide +kernel : pcode 140 27 = some (10, 0, 0, 0, 0)) rfl,
  fun l1 nx h r s Q  => o_getI (by decide +kernel : pcode 140 28 = some (55, 1225, 8, 8, 101)) (by decide) (by decide +kernel),
  fun l1 x0 nx h r s Q  => o_iconst (by decide +kernel : pcode 140 31 = some (1, 0, 0, 0, 1)),
  fun l1 x0 x1 nx h r s Q  => o_icmp_eq (by decide +kernel : pcode 140 32 = some (47, 41, 0, 0, 9)),
  fun l1 nx h r s Q  => o_aload_n (by decide +kernel : pcode 140 35 = some (10, 0, 0, 0, 0)) rfl,
  fun l1 nx h r s Q  => o_iconst (by decide +kernel : pcode 140 36 = some (1, 0, 0, 0, 1)),
  fun l1 x1 nx h r s Q  => o_ivV (s1 := [pI x1]) (s2 := []) (o := 178) (by decide +kernel : pcode 140 37 = some (78, 134, 2, 1351, 120)) rfl (Nat.le_of_ble_eq_true rfl) (by decide) (by decide +kernel) rfl rfl rfl,
  fun l1 x0 nx h r s Q hz => o_zret (by decide +kernel : pcode 140 40 = some (88, 0, 0, 0, 0)) hz,
  fun l1 nx h r s Q  => o_aload_n (by decide +kernel : pcode 140 41 = some (10, 0, 0, 0, 0)) rfl,
  fun l1 nx h r s Q  => o_getJ (by decide +kernel : pcode 140 42 = some (56, 1227, 8, 10, 97)) (by decide) (by decide +kernel),
  fun l1 x0 nx h r s Q  => o_lstore_n (by decide +kernel : pcode 140 45 = some (14, 2, 1, 0, 0)) rfl,
  fun l1 l2 nx h r s Q  => o_aload_n (by decide +kernel : pcode 140 46 = some (10, 0, 0, 0, 0)) rfl,
  fun l1 l2 nx h r s Q  => o_iconst (by decide +kernel : pcode 140 47 = some (1, 0, 0, 0, 2)),
  fun l1 l2 x1 nx h r s Q  => o_aload_n (by decide +kernel : pcode 140 48 = some (10, 0, 0, 0, 0)) rfl,
  fun l1 l2 x1 nx h r s Q  => o_lload_n (by decide +kernel : pcode 140 49 = some (8, 2, 0, 0, 0)) rfl,
  fun l1 l2 x1 x3 nx h r s Q  => o_ivV (s1 := [pJ x3]) (s2 := [pI x1, pR 178]) (o := 178) (by decide +kernel : pcode 140 50 = some (78, 139, 2, 1376, 138)) rfl (Nat.le_of_ble_eq_true rfl) (by decide) (by decide +kernel) rfl rfl rfl,
  fun l1 l2 x1 x2 nx h r s Q  => o_iconst (by decide +kernel : pcode 140 53 = some (1, 0, 0, 0, -1)),
  fun l1 l2 x1 x2 x3 nx h r s Q  => o_icmp_ne (by decide +kernel : pcode 140 54 = some (48, 61, 0, 0, 7)),
  fun l1 l2 x1 nx h r s Q  => o_iconst (by decide +kernel : pcode 140 57 = some (1, 0, 0, 0, 1)),
  fun l1 l2 x1 x2 nx h r s Q  => o_goto (by decide +kernel : pcode 140 58 = some (53, 62, 0, 0, 4)),
  fun l1 l2 x1 nx h r s Q  => o_iconst (by decide +kernel : pcode 140 61 = some (1, 0, 0, 0, 0)),
  fun l1 l2 x1 x2 nx h r s Q  => o_ivV (s1 := [pI x2, pI x1]) (s2 := []) (o := 178) (by decide +kernel : pcode 140 62 = some (78, 135, 3, 1347, 134)) rfl (Nat.le_of_ble_eq_true rfl) (by decide) (by decide +kernel) rfl rfl rfl,
  fun l1 l2 x0 nx h r s Q  => o_if_ne (by decide +kernel : pcode 140 65 = some (42, 70, 0, 0, 5)),
  fun l1 l2 nx h r s Q  => o_iconst (by decide +kernel : pcode 140 68 = some (1, 0, 0, 0, 0)),
  fun l1 l2 x0 nx h r s Q hz => o_zret (by decide +kernel : pcode 140 69 = some (88, 0, 0, 0, 0)) hz,
  fun l1 l2 nx h r s Q  => o_aload_n (by decide +kernel : pcode 140 70 = some (10, 0, 0, 0, 0)) rfl,
  fun l1 l2 nx h r s Q hw => o_getR (h := (h, r, s)) (by decide +kernel : pcode 140 71 = some (57, 1233, 8, 16, 27)) (by decide) (by decide +kernel) (hw _ (List.mem_of_getElem? (i := 176) rfl)) (by decide),
  fun l1 l2 nx h r s Q  => o_iload_n (by decide +kernel : pcode 140 74 = some (6, 1, 0, 0, 0)) rfl,
  fun l1 l2 x1 nx h r s Q  => o_lload_n (by decide +kernel : pcode 140 75 = some (8, 2, 0, 0, 0)) rfl,
  fun l1 l2 x1 x2 nx h r s Q hi hn => o_last (h := (h, r, s)) (n := 4) (by decide +kernel : pcode 140 76 = some (66, 0, 0, 0, 0)) (by decide) (by decide +kernel) hi hn,
  fun l1 l2 nx h r s Q  => o_iconst (by decide +kernel : pcode 140 77 = some (1, 0, 0, 0, 4)),
  fun l1 l2 x0 nx h r s Q  => o_bipush (by decide +kernel : pcode 140 78 = some (2, 0, 0, 0, 40)),
  fun l1 l2 x0 x1 nx h r s Q  => o_iload_n (by decide +kernel : pcode 140 80 = some (6, 1, 0, 0, 0)) rfl,
  fun l1 l2 x0 x1 x2 nx h r s Q  => o_imul (by decide +kernel : pcode 140 81 = some (21, 0, 0, 0, 0)),
  fun l1 l2 x0 x1 nx h r s Q  => o_iadd (by decide +kernel : pcode 140 82 = some (19, 0, 0, 0, 0)),
  fun l1 l2 x0 nx h r s Q  => o_istore (by decide +kernel : pcode 140 83 = some (13, 4, 1, 0, 0)) rfl,
  fun l1 l2 l4 nx h r s Q  => o_aload_n (by decide +kernel : pcode 140 85 = some (10, 0, 0, 0, 0)) rfl,
  fun l1 l2 l4 nx h r s Q  => o_iload (by decide +kernel : pcode 140 86 = some (7, 4, 0, 0, 0)) rfl,
  fun l1 l2 l4 x1 nx h r s Q  => o_iconst (by decide +kernel : pcode 140 88 = some (1, 0, 0, 0, 0)),
  fun l1 l2 l4 x1 x2 nx h r s Q  => o_iadd (by decide +kernel : pcode 140 89 = some (19, 0, 0, 0, 0)),
  fun l1 l2 l4 x1 nx h r s Q  => o_iconst (by decide +kernel : pcode 140 90 = some (1, 0, 0, 0, 0)),
  fun l1 l2 l4 x1 x2 nx h r s Q  => o_sipush (by decide +kernel : pcode 140 91 = some (3, 0, 0, 0, 999)),
  fun l1 l2 l4 x1 x2 x3 nx h r s Q  => o_ivV (s1 := [pI x3, pI x2, pI x1]) (s2 := []) (o := 178) (by decide +kernel : pcode 140 94 = some (78, 137, 4, 1355, 142)) rfl (Nat.le_of_ble_eq_true rfl) (by decide) (by decide +kernel) rfl rfl rfl⟩
set_option maxHeartbeats 4000000 in
set_option maxRecDepth 10000 in
theorem st_X8_machineLine_1 :
  (∀ (l1 : Int) (l2 : Int) (l4 : Int) (x0 : Int) (nx : Nat) (h r : PF) (s : Int → Int) (Q : PO → PY → Nat → PC → Prop), (Wp 140 97 [some (pR 178), some (pI l1), some (pJ l2), none, some (pI l4)] [pI x0] LY nx (h, r, s) Q ↔ (if x0 = 0 then Wp 140 128 [some (pR 178), some (pI l1), some (pJ l2), none, some (pI l4)] [] LY nx (h, r, s) Q else Wp 140 100 [some (pR 178), some (pI l1), some (pJ l2), none, some (pI l4)] [] LY nx (h, r, s) Q))) ∧
  (∀ (l1 : Int) (l2 : Int) (l4 : Int) (nx : Nat) (h r : PF) (s : Int → Int) (Q : PO → PY → Nat → PC → Prop), (Wp 140 100 [some (pR 178), some (pI l1), some (pJ l2), none, some (pI l4)] [] LY nx (h, r, s) Q ↔ Wp 140 101 [some (pR 178), some (pI l1), some (pJ l2), none, some (pI l4)] [pR 178] LY nx (h, r, s) Q)) ∧
  (∀ (l1 : Int) (l2 : Int) (l4 : Int) (nx : Nat) (h r : PF) (s : Int → Int) (Q : PO → PY → Nat → PC → Prop), (Wp 140 101 [some (pR 178), some (pI l1), some (pJ l2), none, some (pI l4)] [pR 178] LY nx (h, r, s) Q ↔ Wp 140 103 [some (pR 178), some (pI l1), some (pJ l2), none, some (pI l4)] [pI l4, pR 178] LY nx (h, r, s) Q)) ∧
  (∀ (l1 : Int) (l2 : Int) (l4 : Int) (x1 : Int) (nx : Nat) (h r : PF) (s : Int → Int) (Q : PO → PY → Nat → PC → Prop), (Wp 140 103 [some (pR 178), some (pI l1), some (pJ l2), none, some (pI l4)] [pI x1, pR 178] LY nx (h, r, s) Q ↔ Wp 140 104 [some (pR 178), some (pI l1), some (pJ l2), none, some (pI l4)] [pI 1, pI x1, pR 178] LY nx (h, r, s) Q)) ∧
  (∀ (l1 : Int) (l2 : Int) (l4 : Int) (x1 : Int) (x2 : Int) (nx : Nat) (h r : PF) (s : Int → Int) (Q : PO → PY → Nat → PC → Prop), (Wp 140 104 [some (pR 178), some (pI l1), some (pJ l2), none, some (pI l4)] [pI x2, pI x1, pR 178] LY nx (h, r, s) Q ↔ Wp 140 105 [some (pR 178), some (pI l1), some (pJ l2), none, some (pI l4)] [pI (w32 (x1 + x2)), pR 178] LY nx (h, r, s) Q)) ∧
  (∀ (l1 : Int) (l2 : Int) (l4 : Int) (x1 : Int) (nx : Nat) (h r : PF) (s : Int → Int) (Q : PO → PY → Nat → PC → Prop), (Wp 140 105 [some (pR 178), some (pI l1), some (pJ l2), none, some (pI l4)] [pI x1, pR 178] LY nx (h, r, s) Q ↔ Wp 140 106 [some (pR 178), some (pI l1), some (pJ l2), none, some (pI l4)] [pI 1, pI x1, pR 178] LY nx (h, r, s) Q)) ∧
  (∀ (l1 : Int) (l2 : Int) (l4 : Int) (x1 : Int) (x2 : Int) (nx : Nat) (h r : PF) (s : Int → Int) (Q : PO → PY → Nat → PC → Prop), (Wp 140 106 [some (pR 178), some (pI l1), some (pJ l2), none, some (pI l4)] [pI x2, pI x1, pR 178] LY nx (h, r, s) Q ↔ Wp 140 108 [some (pR 178), some (pI l1), some (pJ l2), none, some (pI l4)] [pI 9, pI x2, pI x1, pR 178] LY nx (h, r, s) Q)) ∧
  (∀ (l1 : Int) (l2 : Int) (l4 : Int) (x1 : Int) (x2 : Int) (x3 : Int) (nx : Nat) (h r : PF) (s : Int → Int) (Q : PO → PY → Nat → PC → Prop), (Wp 140 108 [some (pR 178), some (pI l1), some (pJ l2), none, some (pI l4)] [pI x3, pI x2, pI x1, pR 178] LY nx (h, r, s) Q ↔ Wp 137 0 [some (pR 178), some (pI x1), some (pI x2), some (pI x3)] [] LY nx (h, r, s) (Kc 140 108 [some (pR 178), some (pI l1), some (pJ l2), none, some (pI l4)] 111 [] Q))) ∧
  (∀ (l1 : Int) (l2 : Int) (l4 : Int) (x0 : Int) (nx : Nat) (h r : PF) (s : Int → Int) (Q : PO → PY → Nat → PC → Prop), (Wp 140 111 [some (pR 178), some (pI l1), some (pJ l2), none, some (pI l4)] [pI x0] LY nx (h, r, s) Q ↔ (if x0 = 0 then Wp 140 128 [some (pR 178), some (pI l1), some (pJ l2), none, some (pI l4)] [] LY nx (h, r, s) Q else Wp 140 114 [some (pR 178), some (pI l1), some (pJ l2), none, some (pI l4)] [] LY nx (h, r, s) Q))) ∧
  (∀ (l1 : Int) (l2 : Int) (l4 : Int) (nx : Nat) (h r : PF) (s : Int → Int) (Q : PO → PY → Nat → PC → Prop), (Wp 140 114 [some (pR 178), some (pI l1), some (pJ l2), none, some (pI l4)] [] LY nx (h, r, s) Q ↔ Wp 140 115 [some (pR 178), some (pI l1), some (pJ l2), none, some (pI l4)] [pR 178] LY nx (h, r, s) Q)) ∧
  (∀ (l1 : Int) (l2 : Int) (l4 : Int) (nx : Nat) (h r : PF) (s : Int → Int) (Q : PO → PY → Nat → PC → Prop), (Wp 140 115 [some (pR 178), some (pI l1), some (pJ l2), none, some (pI l4)] [pR 178] LY nx (h, r, s) Q ↔ Wp 140 117 [some (pR 178), some (pI l1), some (pJ l2), none, some (pI l4)] [pI l4, pR 178] LY nx (h, r, s) Q)) ∧
  (∀ (l1 : Int) (l2 : Int) (l4 : Int) (x1 : Int) (nx : Nat) (h r : PF) (s : Int → Int) (Q : PO → PY → Nat → PC → Prop), (Wp 140 117 [some (pR 178), some (pI l1), some (pJ l2), none, some (pI l4)] [pI x1, pR 178] LY nx (h, r, s) Q ↔ Wp 140 118 [some (pR 178), some (pI l1), some (pJ l2), none, some (pI l4)] [pI 2, pI x1, pR 178] LY nx (h, r, s) Q)) ∧
  (∀ (l1 : Int) (l2 : Int) (l4 : Int) (x1 : Int) (x2 : Int) (nx : Nat) (h r : PF) (s : Int → Int) (Q : PO → PY → Nat → PC → Prop), (Wp 140 118 [some (pR 178), some (pI l1), some (pJ l2), none, some (pI l4)] [pI x2, pI x1, pR 178] LY nx (h, r, s) Q ↔ Wp 140 119 [some (pR 178), some (pI l1), some (pJ l2), none, some (pI l4)] [pI (w32 (x1 + x2)), pR 178] LY nx (h, r, s) Q)) ∧
  (∀ (l1 : Int) (l2 : Int) (l4 : Int) (x1 : Int) (nx : Nat) (h r : PF) (s : Int → Int) (Q : PO → PY → Nat → PC → Prop), (Wp 140 119 [some (pR 178), some (pI l1), some (pJ l2), none, some (pI l4)] [pI x1, pR 178] LY nx (h, r, s) Q ↔ Wp 140 120 [some (pR 178), some (pI l1), some (pJ l2), none, some (pI l4)] [pI 1, pI x1, pR 178] LY nx (h, r, s) Q)) ∧
  (∀ (l1 : Int) (l2 : Int) (l4 : Int) (x1 : Int) (x2 : Int) (nx : Nat) (h r : PF) (s : Int → Int) (Q : PO → PY → Nat → PC → Prop), (Wp 140 120 [some (pR 178), some (pI l1), some (pJ l2), none, some (pI l4)] [pI x2, pI x1, pR 178] LY nx (h, r, s) Q ↔ Wp 140 122 [some (pR 178), some (pI l1), some (pJ l2), none, some (pI l4)] [pI 6, pI x2, pI x1, pR 178] LY nx (h, r, s) Q)) ∧
  (∀ (l1 : Int) (l2 : Int) (l4 : Int) (x1 : Int) (x2 : Int) (x3 : Int) (nx : Nat) (h r : PF) (s : Int → Int) (Q : PO → PY → Nat → PC → Prop), (Wp 140 122 [some (pR 178), some (pI l1), some (pJ l2), none, some (pI l4)] [pI x3, pI x2, pI x1, pR 178] LY nx (h, r, s) Q ↔ Wp 137 0 [some (pR 178), some (pI x1), some (pI x2), some (pI x3)] [] LY nx (h, r, s) (Kc 140 122 [some (pR 178), some (pI l1), some (pJ l2), none, some (pI l4)] 125 [] Q))) ∧
  (∀ (l1 : Int) (l2 : Int) (l4 : Int) (x0 : Int) (nx : Nat) (h r : PF) (s : Int → Int) (Q : PO → PY → Nat → PC → Prop), (Wp 140 125 [some (pR 178), some (pI l1), some (pJ l2), none, some (pI l4)] [pI x0] LY nx (h, r, s) Q ↔ (if x0 ≠ 0 then Wp 140 130 [some (pR 178), some (pI l1), some (pJ l2), none, some (pI l4)] [] LY nx (h, r, s) Q else Wp 140 128 [some (pR 178), some (pI l1), some (pJ l2), none, some (pI l4)] [] LY nx (h, r, s) Q))) ∧
  (∀ (l1 : Int) (l2 : Int) (l4 : Int) (nx : Nat) (h r : PF) (s : Int → Int) (Q : PO → PY → Nat → PC → Prop), (Wp 140 128 [some (pR 178), some (pI l1), some (pJ l2), none, some (pI l4)] [] LY nx (h, r, s) Q ↔ Wp 140 129 [some (pR 178), some (pI l1), some (pJ l2), none, some (pI l4)] [pI 0] LY nx (h, r, s) Q)) ∧
  (∀ (l1 : Int) (l2 : Int) (l4 : Int) (x0 : Int) (nx : Nat) (h r : PF) (s : Int → Int) (Q : PO → PY → Nat → PC → Prop), x0 = 0 ∨ x0 = 1 → (Wp 140 129 [some (pR 178), some (pI l1), some (pJ l2), none, some (pI l4)] [pI x0] LY nx (h, r, s) Q ↔ Q (Sum.inl (some (pI x0))) LY nx (h, r, s))) ∧
  (∀ (l1 : Int) (l2 : Int) (l4 : Int) (nx : Nat) (h r : PF) (s : Int → Int) (Q : PO → PY → Nat → PC → Prop), (Wp 140 130 [some (pR 178), some (pI l1), some (pJ l2), none, some (pI l4)] [] LY nx (h, r, s) Q ↔ Wp 140 131 [some (pR 178), some (pI l1), some (pJ l2), none, some (pI l4)] [pR 178] LY nx (h, r, s) Q)) ∧
  (∀ (l1 : Int) (l2 : Int) (l4 : Int) (nx : Nat) (h r : PF) (s : Int → Int) (Q : PO → PY → Nat → PC → Prop), (Wp 140 131 [some (pR 178), some (pI l1), some (pJ l2), none, some (pI l4)] [pR 178] LY nx (h, r, s) Q ↔ Wp 140 133 [some (pR 178), some (pI l1), some (pJ l2), none, some (pI l4)] [pR (-3), pR 178] LY nx (h, r, s) Q)) ∧
  (∀ (l1 : Int) (l2 : Int) (l4 : Int) (nx : Nat) (h r : PF) (s : Int → Int) (Q : PO → PY → Nat → PC → Prop), (Wp 140 133 [some (pR 178), some (pI l1), some (pJ l2), none, some (pI l4)] [pR (-3), pR 178] LY nx (h, r, s) Q ↔ Wp 133 0 [some (pR 178), some (pR (-3)), none, none] [] LY nx (h, r, s) (Kc 140 133 [some (pR 178), some (pI l1), some (pJ l2), none, some (pI l4)] 136 [] Q))) ∧
  (∀ (l1 : Int) (l2 : Int) (l4 : Int) (x0 : Int) (nx : Nat) (h r : PF) (s : Int → Int) (Q : PO → PY → Nat → PC → Prop), (Wp 140 136 [some (pR 178), some (pI l1), some (pJ l2), none, some (pI l4)] [pI x0] LY nx (h, r, s) Q ↔ (if x0 = 0 then Wp 140 153 [some (pR 178), some (pI l1), some (pJ l2), none, some (pI l4)] [] LY nx (h, r, s) Q else Wp 140 139 [some (pR 178), some (pI l1), some (pJ l2), none, some (pI l4)] [] LY nx (h, r, s) Q))) ∧
  (∀ (l1 : Int) (l2 : Int) (l4 : Int) (nx : Nat) (h r : PF) (s : Int → Int) (Q : PO → PY → Nat → PC → Prop), (Wp 140 139 [some (pR 178), some (pI l1), some (pJ l2), none, some (pI l4)] [] LY nx (h, r, s) Q ↔ Wp 140 140 [some (pR 178), some (pI l1), some (pJ l2), none, some (pI l4)] [pR 178] LY nx (h, r, s) Q)) ∧
  (∀ (l1 : Int) (l2 : Int) (l4 : Int) (nx : Nat) (h r : PF) (s : Int → Int) (Q : PO → PY → Nat → PC → Prop), WFr r → (Wp 140 140 [some (pR 178), some (pI l1), some (pJ l2), none, some (pI l4)] [pR 178] LY nx (h, r, s) Q ↔ Wp 140 143 [some (pR 178), some (pI l1), some (pJ l2), none, some (pI l4)] [pR 182] LY nx (h, r, s) Q)) ∧
  (∀ (l1 : Int) (l2 : Int) (l4 : Int) (nx : Nat) (h r : PF) (s : Int → Int) (Q : PO → PY → Nat → PC → Prop), (Wp 140 143 [some (pR 178), some (pI l1), some (pJ l2), none, some (pI l4)] [pR 182] LY nx (h, r, s) Q ↔ Wp 140 145 [some (pR 178), some (pI l1), some (pJ l2), none, some (pI l4)] [pI l4, pR 182] LY nx (h, r, s) Q)) ∧
  (∀ (l1 : Int) (l2 : Int) (l4 : Int) (x1 : Int) (nx : Nat) (h r : PF) (s : Int → Int) (Q : PO → PY → Nat → PC → Prop), (Wp 140 145 [some (pR 178), some (pI l1), some (pJ l2), none, some (pI l4)] [pI x1, pR 182] LY nx (h, r, s) Q ↔ Wp 140 146 [some (pR 178), some (pI l1), some (pJ l2), none, some (pI l4)] [pI 3, pI x1, pR 182] LY nx (h, r, s) Q)) ∧
  (∀ (l1 : Int) (l2 : Int) (l4 : Int) (x1 : Int) (x2 : Int) (nx : Nat) (h r : PF) (s : Int → Int) (Q : PO → PY → Nat → PC → Prop), (Wp 140 146 [some (pR 178), some (pI l1), some (pJ l2), none, some (pI l4)] [pI x2, pI x1, pR 182] LY nx (h, r, s) Q ↔ Wp 140 147 [some (pR 178), some (pI l1), some (pJ l2), none, some (pI l4)] [pI (w32 (x1 + x2)), pR 182] LY nx (h, r, s) Q)) ∧
  (∀ (l1 : Int) (l2 : Int) (l4 : Int) (x1 : Int) (nx : Nat) (h r : PF) (s : Int → Int) (Q : PO → PY → Nat → PC → Prop), (Wp 140 147 [some (pR 178), some (pI l1), some (pJ l2), none, some (pI l4)] [pI x1, pR 182] LY nx (h, r, s) Q ↔ Wp 140 148 [some (pR 178), some (pI l1), some (pJ l2), none, some (pI l4)] [pI 1, pI x1, pR 182] LY nx (h, r, s) Q)) ∧
  (∀ (l1 : Int) (l2 : Int) (l4 : Int) (x1 : Int) (x2 : Int) (nx : Nat) (h r : PF) (s : Int → Int) (Q : PO → PY → Nat → PC → Prop), 0 ≤ x1 → x1 < 164 → (Wp 140 148 [some (pR 178), some (pI l1), some (pJ l2), none, some (pI l4)] [pI x2, pI x1, pR 182] LY nx (h, r, s) Q ↔ Wp 140 149 [some (pR 178), some (pI l1), some (pJ l2), none, some (pI l4)] [] LY nx (fup h 182 x1 x2, r, s) Q)) ∧
  (∀ (l1 : Int) (l2 : Int) (l4 : Int) (nx : Nat) (h r : PF) (s : Int → Int) (Q : PO → PY → Nat → PC → Prop), (Wp 140 149 [some (pR 178), some (pI l1), some (pJ l2), none, some (pI l4)] [] LY nx (h, r, s) Q ↔ Wp 140 150 [some (pR 178), some (pI l1), some (pJ l2), none, some (pI l4)] [pR 178] LY nx (h, r, s) Q)) ∧
  (∀ (l1 : Int) (l2 : Int) (l4 : Int) (nx : Nat) (h r : PF) (s : Int → Int) (Q : PO → PY → Nat → PC → Prop), (Wp 140 150 [some (pR 178), some (pI l1), some (pJ l2), none, some (pI l4)] [pR 178] LY nx (h, r, s) Q ↔ Wp 132 0 [some (pR 178), none] [] LY nx (h, r, s) (Kc 140 150 [some (pR 178), some (pI l1), some (pJ l2), none, some (pI l4)] 153 [] Q))) ∧
  (∀ (l1 : Int) (l2 : Int) (l4 : Int) (nx : Nat) (h r : PF) (s : Int → Int) (Q : PO → PY → Nat → PC → Prop), (Wp 140 153 [some (pR 178), some (pI l1), some (pJ l2), none, some (pI l4)] [] LY nx (h, r, s) Q ↔ Wp 140 154 [some (pR 178), some (pI l1), some (pJ l2), none, some (pI l4)] [pR 178] LY nx (h, r, s) Q)) ∧
  (∀ (l1 : Int) (l2 : Int) (l4 : Int) (nx : Nat) (h r : PF) (s : Int → Int) (Q : PO → PY → Nat → PC → Prop), WFr r → (Wp 140 154 [some (pR 178), some (pI l1), some (pJ l2), none, some (pI l4)] [pR 178] LY nx (h, r, s) Q ↔ Wp 140 157 [some (pR 178), some (pI l1), some (pJ l2), none, some (pI l4)] [pR 182] LY nx (h, r, s) Q)) ∧
  (∀ (l1 : Int) (l2 : Int) (l4 : Int) (nx : Nat) (h r : PF) (s : Int → Int) (Q : PO → PY → Nat → PC → Prop), (Wp 140 157 [some (pR 178), some (pI l1), some (pJ l2), none, some (pI l4)] [pR 182] LY nx (h, r, s) Q ↔ Wp 140 158 [some (pR 178), some (pI l1), some (pJ l2), none, some (pI l4)] [pI 1, pR 182] LY nx (h, r, s) Q)) ∧
  (∀ (l1 : Int) (l2 : Int) (l4 : Int) (x1 : Int) (nx : Nat) (h r : PF) (s : Int → Int) (Q : PO → PY → Nat → PC → Prop), (Wp 140 158 [some (pR 178), some (pI l1), some (pJ l2), none, some (pI l4)] [pI x1, pR 182] LY nx (h, r, s) Q ↔ Wp 140 159 [some (pR 178), some (pI l1), some (pJ l2), none, some (pI l4)] [pI x1, pR 182, pI x1, pR 182] LY nx (h, r, s) Q)) ∧
  (∀ (l1 : Int) (l2 : Int) (l4 : Int) (x1 : Int) (x3 : Int) (nx : Nat) (h r : PF) (s : Int → Int) (Q : PO → PY → Nat → PC → Prop), 0 ≤ x3 → x3 < 164 → (Wp 140 159 [some (pR 178), some (pI l1), some (pJ l2), none, some (pI l4)] [pI x3, pR 182, pI x1, pR 182] LY nx (h, r, s) Q ↔ Wp 140 160 [some (pR 178), some (pI l1), some (pJ l2), none, some (pI l4)] [pI (h 182 x3), pI x1, pR 182] LY nx (h, r, s) Q)) ∧
  (∀ (l1 : Int) (l2 : Int) (l4 : Int) (x1 : Int) (x2 : Int) (nx : Nat) (h r : PF) (s : Int → Int) (Q : PO → PY → Nat → PC → Prop), (Wp 140 160 [some (pR 178), some (pI l1), some (pJ l2), none, some (pI l4)] [pI x2, pI x1, pR 182] LY nx (h, r, s) Q ↔ Wp 140 161 [some (pR 178), some (pI l1), some (pJ l2), none, some (pI l4)] [pI 1, pI x2, pI x1, pR 182] LY nx (h, r, s) Q)) ∧
  (∀ (l1 : Int) (l2 : Int) (l4 : Int) (x1 : Int) (x2 : Int) (x3 : Int) (nx : Nat) (h r : PF) (s : Int → Int) (Q : PO → PY → Nat → PC → Prop), (Wp 140 161 [some (pR 178), some (pI l1), some (pJ l2), none, some (pI l4)] [pI x3, pI x2, pI x1, pR 182] LY nx (h, r, s) Q ↔ Wp 140 162 [some (pR 178), some (pI l1), some (pJ l2), none, some (pI l4)] [pI (w32 (x2 + x3)), pI x1, pR 182] LY nx (h, r, s) Q)) ∧
  (∀ (l1 : Int) (l2 : Int) (l4 : Int) (x1 : Int) (x2 : Int) (nx : Nat) (h r : PF) (s : Int → Int) (Q : PO → PY → Nat → PC → Prop), 0 ≤ x1 → x1 < 164 → (Wp 140 162 [some (pR 178), some (pI l1), some (pJ l2), none, some (pI l4)] [pI x2, pI x1, pR 182] LY nx (h, r, s) Q ↔ Wp 140 163 [some (pR 178), some (pI l1), some (pJ l2), none, some (pI l4)] [] LY nx (fup h 182 x1 x2, r, s) Q)) ∧
  (∀ (l1 : Int) (l2 : Int) (l4 : Int) (nx : Nat) (h r : PF) (s : Int → Int) (Q : PO → PY → Nat → PC → Prop), (Wp 140 163 [some (pR 178), some (pI l1), some (pJ l2), none, some (pI l4)] [] LY nx (h, r, s) Q ↔ Wp 140 164 [some (pR 178), some (pI l1), some (pJ l2), none, some (pI l4)] [pI 1] LY nx (h, r, s) Q)) ∧
  (∀ (l1 : Int) (l2 : Int) (l4 : Int) (x0 : Int) (nx : Nat) (h r : PF) (s : Int → Int) (Q : PO → PY → Nat → PC → Prop), x0 = 0 ∨ x0 = 1 → (Wp 140 164 [some (pR 178), some (pI l1), some (pJ l2), none, some (pI l4)] [pI x0] LY nx (h, r, s) Q ↔ Q (Sum.inl (some (pI x0))) LY nx (h, r, s))) :=
  ⟨fun l1 l2 l4 x0 nx h r s Q  => o_if_eq (by decide +kernel : pcode 140 97 = some (41, 128, 0, 0, 31)),
  fun l1 l2 l4 nx h r s Q  => o_aload_n (by decide +kernel : pcode 140 100 = some (10, 0, 0, 0, 0)) rfl,
  fun l1 l2 l4 nx h r s Q  => o_iload (by decide +kernel : pcode 140 101 = some (7, 4, 0, 0, 0)) rfl,
  fun l1 l2 l4 x1 nx h r s Q  => o_iconst (by decide +kernel : pcode 140 103 = some (1, 0, 0, 0, 1)),
  fun l1 l2 l4 x1 x2 nx h r s Q  => o_iadd (by decide +kernel : pcode 140 104 = some (19, 0, 0, 0, 0)),
  fun l1 l2 l4 x1 nx h r s Q  => o_iconst (by decide +kernel : pcode 140 105 = some (1, 0, 0, 0, 1)),
  fun l1 l2 l4 x1 x2 nx h r s Q  => o_bipush (by decide +kernel : pcode 140 106 = some (2, 0, 0, 0, 9)),
  fun l1 l2 l4 x1 x2 x3 nx h r s Q  => o_ivV (s1 := [pI x3, pI x2, pI x1]) (s2 := []) (o := 178) (by decide +kernel : pcode 140 108 = some (78, 137, 4, 1355, 142)) rfl (Nat.le_of_ble_eq_true rfl) (by decide) (by decide +kernel) rfl rfl rfl,
  fun l1 l2 l4 x0 nx h r s Q  => o_if_eq (by decide +kernel : pcode 140 111 = some (41, 128, 0, 0, 17)),
  fun l1 l2 l4 nx h r s Q  => o_aload_n (by decide +kernel : pcode 140 114 = some (10, 0, 0, 0, 0)) rfl,
  fun l1 l2 l4 nx h r s Q  => o_iload (by decide +kernel : pcode 140 115 = some (7, 4, 0, 0, 0)) rfl,
  fun l1 l2 l4 x1 nx h r s Q  => o_iconst (by decide +kernel : pcode 140 117 = some (1, 0, 0, 0, 2)),
  fun l1 l2 l4 x1 x2 nx h r s Q  => o_iadd (by decide +kernel : pcode 140 118 = some (19, 0, 0, 0, 0)),
  fun l1 l2 l4 x1 nx h r s Q  => o_iconst (by decide +kernel : pcode 140 119 = some (1, 0, 0, 0, 1)),
  fun l1 l2 l4 x1 x2 nx h r s Q  => o_bipush (by decide +kernel : pcode 140 120 = some (2, 0, 0, 0, 6)),
  fun l1 l2 l4 x1 x2 x3 nx h r s Q  => o_ivV (s1 := [pI x3, pI x2, pI x1]) (s2 := []) (o := 178) (by decide +kernel : pcode 140 122 = some (78, 137, 4, 1355, 142)) rfl (Nat.le_of_ble_eq_true rfl) (by decide) (by decide +kernel) rfl rfl rfl,
  fun l1 l2 l4 x0 nx h r s Q  => o_if_ne (by decide +kernel : pcode 140 125 = some (42, 130, 0, 0, 5)),
  fun l1 l2 l4 nx h r s Q  => o_iconst (by decide +kernel : pcode 140 128 = some (1, 0, 0, 0, 0)),
  fun l1 l2 l4 x0 nx h r s Q hz => o_zret (by decide +kernel : pcode 140 129 = some (88, 0, 0, 0, 0)) hz,
  fun l1 l2 l4 nx h r s Q  => o_aload_n (by decide +kernel : pcode 140 130 = some (10, 0, 0, 0, 0)) rfl,
  fun l1 l2 l4 nx h r s Q  => o_ldcs (by decide +kernel : pcode 140 131 = some (84, 2, 145, 0, 0)),
  fun l1 l2 l4 nx h r s Q  => o_ivV (s1 := [pR (-3)]) (s2 := []) (o := 178) (by decide +kernel : pcode 140 133 = some (78, 133, 2, 1341, 147)) rfl (Nat.le_of_ble_eq_true rfl) (by decide) (by decide +kernel) rfl rfl rfl,
  fun l1 l2 l4 x0 nx h r s Q  => o_if_eq (by decide +kernel : pcode 140 136 = some (41, 153, 0, 0, 17)),
  fun l1 l2 l4 nx h r s Q  => o_aload_n (by decide +kernel : pcode 140 139 = some (10, 0, 0, 0, 0)) rfl,
  fun l1 l2 l4 nx h r s Q hw => o_getR (h := (h, r, s)) (by decide +kernel : pcode 140 140 = some (57, 1232, 8, 15, 24)) (by decide) (by decide +kernel) (hw _ (List.mem_of_getElem? (i := 175) rfl)) (by decide),
  fun l1 l2 l4 nx h r s Q  => o_iload (by decide +kernel : pcode 140 143 = some (7, 4, 0, 0, 0)) rfl,
  fun l1 l2 l4 x1 nx h r s Q  => o_iconst (by decide +kernel : pcode 140 145 = some (1, 0, 0, 0, 3)),
  fun l1 l2 l4 x1 x2 nx h r s Q  => o_iadd (by decide +kernel : pcode 140 146 = some (19, 0, 0, 0, 0)),
  fun l1 l2 l4 x1 nx h r s Q  => o_iconst (by decide +kernel : pcode 140 147 = some (1, 0, 0, 0, 1)),
  fun l1 l2 l4 x1 x2 nx h r s Q hi hn => o_iast (h := (h, r, s)) (n := 164) (by decide +kernel : pcode 140 148 = some (64, 0, 0, 0, 0)) (by decide) (by decide +kernel) hi hn,
  fun l1 l2 l4 nx h r s Q  => o_aload_n (by decide +kernel : pcode 140 149 = some (10, 0, 0, 0, 0)) rfl,
  fun l1 l2 l4 nx h r s Q  => o_ivV (s1 := []) (s2 := []) (o := 178) (by decide +kernel : pcode 140 150 = some (78, 132, 1, 1332, 124)) rfl (Nat.le_of_ble_eq_true rfl) (by decide) (by decide +kernel) rfl rfl rfl,
  fun l1 l2 l4 nx h r s Q  => o_aload_n (by decide +kernel : pcode 140 153 = some (10, 0, 0, 0, 0)) rfl,
  fun l1 l2 l4 nx h r s Q hw => o_getR (h := (h, r, s)) (by decide +kernel : pcode 140 154 = some (57, 1232, 8, 15, 24)) (by decide) (by decide +kernel) (hw _ (List.mem_of_getElem? (i := 175) rfl)) (by decide),
  fun l1 l2 l4 nx h r s Q  => o_iconst (by decide +kernel : pcode 140 157 = some (1, 0, 0, 0, 1)),
  fun l1 l2 l4 x1 nx h r s Q  => o_dup2 (by decide +kernel : pcode 140 158 = some (39, 0, 0, 0, 0)) ⟨rfl, rfl⟩,
  fun l1 l2 l4 x1 x3 nx h r s Q hi hn => o_iald (h := (h, r, s)) (n := 164) (by decide +kernel : pcode 140 159 = some (63, 0, 0, 0, 0)) (by decide) (by decide +kernel) hi hn,
  fun l1 l2 l4 x1 x2 nx h r s Q  => o_iconst (by decide +kernel : pcode 140 160 = some (1, 0, 0, 0, 1)),
  fun l1 l2 l4 x1 x2 x3 nx h r s Q  => o_iadd (by decide +kernel : pcode 140 161 = some (19, 0, 0, 0, 0)),
  fun l1 l2 l4 x1 x2 nx h r s Q hi hn => o_iast (h := (h, r, s)) (n := 164) (by decide +kernel : pcode 140 162 = some (64, 0, 0, 0, 0)) (by decide) (by decide +kernel) hi hn,
  fun l1 l2 l4 nx h r s Q  => o_iconst (by decide +kernel : pcode 140 163 = some (1, 0, 0, 0, 1)),
  fun l1 l2 l4 x0 nx h r s Q hz => o_zret (by decide +kernel : pcode 140 164 = some (88, 0, 0, 0, 0)) hz⟩
set_option maxHeartbeats 4000000 in
set_option maxRecDepth 10000 in
theorem st_X8_machineRead :
  (∀  (nx : Nat) (h r : PF) (s : Int → Int) (Q : PO → PY → Nat → PC → Prop), (Wp 141 0 [some (pR 178), none] [] LY nx (h, r, s) Q ↔ Wp 141 1 [some (pR 178), none] [pR 178] LY nx (h, r, s) Q)) ∧
  (∀  (nx : Nat) (h r : PF) (s : Int → Int) (Q : PO → PY → Nat → PC → Prop), (Wp 141 1 [some (pR 178), none] [pR 178] LY nx (h, r, s) Q ↔ Wp 132 0 [some (pR 178), none] [] LY nx (h, r, s) (Kc 141 1 [some (pR 178), none] 4 [] Q))) ∧
  (∀  (nx : Nat) (h r : PF) (s : Int → Int) (Q : PO → PY → Nat → PC → Prop), (Wp 141 4 [some (pR 178), none] [] LY nx (h, r, s) Q ↔ Wp 141 5 [some (pR 178), none] [pR 178] LY nx (h, r, s) Q)) ∧
  (∀  (nx : Nat) (h r : PF) (s : Int → Int) (Q : PO → PY → Nat → PC → Prop), (Wp 141 5 [some (pR 178), none] [pR 178] LY nx (h, r, s) Q ↔ Wp 141 8 [some (pR 178), none] [pI (h 178 8)] LY nx (h, r, s) Q)) ∧
  (∀ (x0 : Int) (nx : Nat) (h r : PF) (s : Int → Int) (Q : PO → PY → Nat → PC → Prop), (Wp 141 8 [some (pR 178), none] [pI x0] LY nx (h, r, s) Q ↔ Wp 141 9 [some (pR 178), none] [pI 1, pI x0] LY nx (h, r, s) Q)) ∧
  (∀ (x0 : Int) (x1 : Int) (nx : Nat) (h r : PF) (s : Int → Int) (Q : PO → PY → Nat → PC → Prop), (Wp 141 9 [some (pR 178), none] [pI x1, pI x0] LY nx (h, r, s) Q ↔ (if x0 = x1 then Wp 141 18 [some (pR 178), none] [] LY nx (h, r, s) Q else Wp 141 12 [some (pR 178), none] [] LY nx (h, r, s) Q))) ∧
  (∀  (nx : Nat) (h r : PF) (s : Int → Int) (Q : PO → PY → Nat → PC → Prop), (Wp 141 12 [some (pR 178), none] [] LY nx (h, r, s) Q ↔ Wp 141 13 [some (pR 178), none] [pR 178] LY nx (h, r, s) Q)) ∧
  (∀  (nx : Nat) (h r : PF) (s : Int → Int) (Q : PO → PY → Nat → PC → Prop), (Wp 141 13 [some (pR 178), none] [pR 178] LY nx (h, r, s) Q ↔ Wp 141 14 [some (pR 178), none] [pI 1, pR 178] LY nx (h, r, s) Q)) ∧
  (∀ (x1 : Int) (nx : Nat) (h r : PF) (s : Int → Int) (Q : PO → PY → Nat → PC → Prop), (Wp 141 14 [some (pR 178), none] [pI x1, pR 178] LY nx (h, r, s) Q ↔ Wp 134 0 [some (pR 178), some (pI x1)] [] LY nx (h, r, s) (Kc 141 14 [some (pR 178), none] 17 [] Q))) ∧
  (∀ (x0 : Int) (nx : Nat) (h r : PF) (s : Int → Int) (Q : PO → PY → Nat → PC → Prop), x0 = 0 ∨ x0 = 1 → (Wp 141 17 [some (pR 178), none] [pI x0] LY nx (h, r, s) Q ↔ Q (Sum.inl (some (pI x0))) LY nx (h, r, s))) ∧
  (∀  (nx : Nat) (h r : PF) (s : Int → Int) (Q : PO → PY → Nat → PC → Prop), (Wp 141 18 [some (pR 178), none] [] LY nx (h, r, s) Q ↔ Wp 141 19 [some (pR 178), none] [pR 178] LY nx (h, r, s) Q)) ∧
  (∀  (nx : Nat) (h r : PF) (s : Int → Int) (Q : PO → PY → Nat → PC → Prop), (Wp 141 19 [some (pR 178), none] [pR 178] LY nx (h, r, s) Q ↔ Wp 141 20 [some (pR 178), none] [pR 178, pR 178] LY nx (h, r, s) Q)) ∧
  (∀  (nx : Nat) (h r : PF) (s : Int → Int) (Q : PO → PY → Nat → PC → Prop), (Wp 141 20 [some (pR 178), none] [pR 178, pR 178] LY nx (h, r, s) Q ↔ Wp 141 23 [some (pR 178), none] [pJ (h 178 10), pR 178] LY nx (h, r, s) Q)) ∧
  (∀ (x1 : Int) (nx : Nat) (h r : PF) (s : Int → Int) (Q : PO → PY → Nat → PC → Prop), (Wp 141 23 [some (pR 178), none] [pJ x1, pR 178] LY nx (h, r, s) Q ↔ Wp 139 0 [some (pR 178), some (pJ x1), none, none] [] LY nx (h, r, s) (Kc 141 23 [some (pR 178), none] 26 [] Q))) ∧
  (∀ (x0 : Int) (nx : Nat) (h r : PF) (s : Int → Int) (Q : PO → PY → Nat → PC → Prop), (Wp 141 26 [some (pR 178), none] [pI x0] LY nx (h, r, s) Q ↔ Wp 141 27 [some (pR 178), some (pI x0)] [] LY nx (h, r, s) Q)) ∧
  (∀ (l1 : Int) (nx : Nat) (h r : PF) (s : Int → Int) (Q : PO → PY → Nat → PC → Prop), (Wp 141 27 [some (pR 178), some (pI l1)] [] LY nx (h, r, s) Q ↔ Wp 141 28 [some (pR 178), some (pI l1)] [pR 178] LY nx (h, r, s) Q)) ∧
  (∀ (l1 : Int) (nx : Nat) (h r : PF) (s : Int → Int) (Q : PO → PY → Nat → PC → Prop), (Wp 141 28 [some (pR 178), some (pI l1)] [pR 178] LY nx (h, r, s) Q ↔ Wp 141 29 [some (pR 178), some (pI l1)] [pI 4, pR 178] LY nx (h, r, s) Q)) ∧
  (∀ (l1 : Int) (x1 : Int) (nx : Nat) (h r : PF) (s : Int → Int) (Q : PO → PY → Nat → PC → Prop), (Wp 141 29 [some (pR 178), some (pI l1)] [pI x1, pR 178] LY nx (h, r, s) Q ↔ Wp 141 31 [some (pR 178), some (pI l1)] [pI 40, pI x1, pR 178] LY nx (h, r, s) Q)) ∧
  (∀ (l1 : Int) (x1 : Int) (x2 : Int) (nx : Nat) (h r : PF) (s : Int → Int) (Q : PO → PY → Nat → PC → Prop), (Wp 141 31 [some (pR 178), some (pI l1)] [pI x2, pI x1, pR 178] LY nx (h, r, s) Q ↔ Wp 141 32 [some (pR 178), some (pI l1)] [pI l1, pI x2, pI x1, pR 178] LY nx (h, r, s) Q)) ∧
  (∀ (l1 : Int) (x1 : Int) (x2 : Int) (x3 : Int) (nx : Nat) (h r : PF) (s : Int → Int) (Q : PO → PY → Nat → PC → Prop), (Wp 141 32 [some (pR 178), some (pI l1)] [pI x3, pI x2, pI x1, pR 178] LY nx (h, r, s) Q ↔ Wp 141 33 [some (pR 178), some (pI l1)] [pI (w32 (x2 * x3)), pI x1, pR 178] LY nx (h, r, s) Q)) ∧
  (∀ (l1 : Int) (x1 : Int) (x2 : Int) (nx : Nat) (h r : PF) (s : Int → Int) (Q : PO → PY → Nat → PC → Prop), (Wp 141 33 [some (pR 178), some (pI l1)] [pI x2, pI x1, pR 178] LY nx (h, r, s) Q ↔ Wp 141 34 [some (pR 178), some (pI l1)] [pI (w32 (x1 + x2)), pR 178] LY nx (h, r, s) Q)) ∧
  (∀ (l1 : Int) (x1 : Int) (nx : Nat) (h r : PF) (s : Int → Int) (Q : PO → PY → Nat → PC → Prop), (Wp 141 34 [some (pR 178), some (pI l1)] [pI x1, pR 178] LY nx (h, r, s) Q ↔ Wp 141 37 [some (pR 178), some (pI l1)] [] LY nx (fup h 178 17 x1, r, s) Q)) ∧
  (∀ (l1 : Int) (nx : Nat) (h r : PF) (s : Int → Int) (Q : PO → PY → Nat → PC → Prop), (Wp 141 37 [some (pR 178), some (pI l1)] [] LY nx (h, r, s) Q ↔ Wp 141 38 [some (pR 178), some (pI l1)] [pR 178] LY nx (h, r, s) Q)) ∧
  (∀ (l1 : Int) (nx : Nat) (h r : PF) (s : Int → Int) (Q : PO → PY → Nat → PC → Prop), (Wp 141 38 [some (pR 178), some (pI l1)] [pR 178] LY nx (h, r, s) Q ↔ Wp 141 39 [some (pR 178), some (pI l1)] [pI 4, pR 178] LY nx (h, r, s) Q)) ∧
  (∀ (l1 : Int) (x1 : Int) (nx : Nat) (h r : PF) (s : Int → Int) (Q : PO → PY → Nat → PC → Prop), (Wp 141 39 [some (pR 178), some (pI l1)] [pI x1, pR 178] LY nx (h, r, s) Q ↔ Wp 141 40 [some (pR 178), some (pI l1)] [pI l1, pI x1, pR 178] LY nx (h, r, s) Q)) ∧
  (∀ (l1 : Int) (x1 : Int) (x2 : Int) (nx : Nat) (h r : PF) (s : Int → Int) (Q : PO → PY → Nat → PC → Prop), (Wp 141 40 [some (pR 178), some (pI l1)] [pI x2, pI x1, pR 178] LY nx (h, r, s) Q ↔ Wp 141 41 [some (pR 178), some (pI l1)] [pI (-1), pI x2, pI x1, pR 178] LY nx (h, r, s) Q)) ∧
  (∀ (l1 : Int) (x1 : Int) (x2 : Int) (x3 : Int) (nx : Nat) (h r : PF) (s : Int → Int) (Q : PO → PY → Nat → PC → Prop), (Wp 141 41 [some (pR 178), some (pI l1)] [pI x3, pI x2, pI x1, pR 178] LY nx (h, r, s) Q ↔ (if x2 = x3 then Wp 141 48 [some (pR 178), some (pI l1)] [pI x1, pR 178] LY nx (h, r, s) Q else Wp 141 44 [some (pR 178), some (pI l1)] [pI x1, pR 178] LY nx (h, r, s) Q))) ∧
  (∀ (l1 : Int) (x1 : Int) (nx : Nat) (h r : PF) (s : Int → Int) (Q : PO → PY → Nat → PC → Prop), (Wp 141 44 [some (pR 178), some (pI l1)] [pI x1, pR 178] LY nx (h, r, s) Q ↔ Wp 141 45 [some (pR 178), some (pI l1)] [pI 1, pI x1, pR 178] LY nx (h, r, s) Q)) ∧
  (∀ (l1 : Int) (x1 : Int) (x2 : Int) (nx : Nat) (h r : PF) (s : Int → Int) (Q : PO → PY → Nat → PC → Prop), (Wp 141 45 [some (pR 178), some (pI l1)] [pI x2, pI x1, pR 178] LY nx (h, r, s) Q ↔ Wp 141 49 [some (pR 178), some (pI l1)] [pI x2, pI x1, pR 178] LY nx (h, r, s) Q)) ∧
  (∀ (l1 : Int) (x1 : Int) (nx : Nat) (h r : PF) (s : Int → Int) (Q : PO → PY → Nat → PC → Prop), (Wp 141 48 [some (pR 178), some (pI l1)] [pI x1, pR 178] LY nx (h, r, s) Q ↔ Wp 141 49 [some (pR 178), some (pI l1)] [pI 0, pI x1, pR 178] LY nx (h, r, s) Q)) ∧
  (∀ (l1 : Int) (x1 : Int) (x2 : Int) (nx : Nat) (h r : PF) (s : Int → Int) (Q : PO → PY → Nat → PC → Prop), (Wp 141 49 [some (pR 178), some (pI l1)] [pI x2, pI x1, pR 178] LY nx (h, r, s) Q ↔ Wp 135 0 [some (pR 178), some (pI x1), some (pI x2)] [] LY nx (h, r, s) (Kc 141 49 [some (pR 178), some (pI l1)] 52 [] Q))) ∧
  (∀ (l1 : Int) (x0 : Int) (nx : Nat) (h r : PF) (s : Int → Int) (Q : PO → PY → Nat → PC → Prop), x0 = 0 ∨ x0 = 1 → (Wp 141 52 [some (pR 178), some (pI l1)] [pI x0] LY nx (h, r, s) Q ↔ Q (Sum.inl (some (pI x0))) LY nx (h, r, s))) :=
  ⟨fun  nx h r s Q  => o_aload_n (by decide +kernel : pcode 141 0 = some (10, 0, 0, 0, 0)) rfl,
  fun  nx h r s Q  => o_ivV (s1 := []) (s2 := []) (o := 178) (by decide +kernel : pcode 141 1 = some (78, 132, 1, 1332, 124)) rfl (Nat.le_of_ble_eq_true rfl) (by decide) (by decide +kernel) rfl rfl rfl,
  fun  nx h r s Q  => o_aload_n (by decide +kernel : pcode 141 4 = some (10, 0, 0, 0, 0)) rfl,
  fun  nx h r s Q  => o_getI (by decide +kernel : pcode 141 5 = some (55, 1225, 8, 8, 101)) (by decide) (by decide +kernel),
  fun x0 nx h r s Q  => o_iconst (by decide +kernel : pcode 141 8 = some (1, 0, 0, 0, 1)),
  fun x0 x1 nx h r s Q  => o_icmp_eq (by decide +kernel : pcode 141 9 = some (47, 18, 0, 0, 9)),
  fun  nx h r s Q  => o_aload_n (by decide +kernel : pcode 141 12 = some (10, 0, 0, 0, 0)) rfl,
  fun  nx h r s Q  => o_iconst (by decide +kernel : pcode 141 13 = some (1, 0, 0, 0, 1)),
  fun x1 nx h r s Q  => o_ivV (s1 := [pI x1]) (s2 := []) (o := 178) (by decide +kernel : pcode 141 14 = some (78, 134, 2, 1351, 120)) rfl (Nat.le_of_ble_eq_true rfl) (by decide) (by decide +kernel) rfl rfl rfl,
  fun x0 nx h r s Q hz => o_zret (by decide +kernel : pcode 141 17 = some (88, 0, 0, 0, 0)) hz,
  fun  nx h r s Q  => o_aload_n (by decide +kernel : pcode 141 18 = some (10, 0, 0, 0, 0)) rfl,
  fun  nx h r s Q  => o_aload_n (by decide +kernel : pcode 141 19 = some (10, 0, 0, 0, 0)) rfl,
  fun  nx h r s Q  => o_getJ (by decide +kernel : pcode 141 20 = some (56, 1227, 8, 10, 97)) (by decide) (by decide +kernel),
  fun x1 nx h r s Q  => o_ivV (s1 := [pJ x1]) (s2 := []) (o := 178) (by decide +kernel : pcode 141 23 = some (78, 139, 2, 1376, 138)) rfl (Nat.le_of_ble_eq_true rfl) (by decide) (by decide +kernel) rfl rfl rfl,
  fun x0 nx h r s Q  => o_istore_n (by decide +kernel : pcode 141 26 = some (12, 1, 0, 0, 0)) rfl,
  fun l1 nx h r s Q  => o_aload_n (by decide +kernel : pcode 141 27 = some (10, 0, 0, 0, 0)) rfl,
  fun l1 nx h r s Q  => o_iconst (by decide +kernel : pcode 141 28 = some (1, 0, 0, 0, 4)),
  fun l1 x1 nx h r s Q  => o_bipush (by decide +kernel : pcode 141 29 = some (2, 0, 0, 0, 40)),
  fun l1 x1 x2 nx h r s Q  => o_iload_n (by decide +kernel : pcode 141 31 = some (6, 1, 0, 0, 0)) rfl,
  fun l1 x1 x2 x3 nx h r s Q  => o_imul (by decide +kernel : pcode 141 32 = some (21, 0, 0, 0, 0)),
  fun l1 x1 x2 nx h r s Q  => o_iadd (by decide +kernel : pcode 141 33 = some (19, 0, 0, 0, 0)),
  fun l1 x1 nx h r s Q  => o_putI (by decide +kernel : pcode 141 34 = some (58, 1234, 8, 17, 151)) (by decide) (by decide +kernel),
  fun l1 nx h r s Q  => o_aload_n (by decide +kernel : pcode 141 37 = some (10, 0, 0, 0, 0)) rfl,
  fun l1 nx h r s Q  => o_iconst (by decide +kernel : pcode 141 38 = some (1, 0, 0, 0, 4)),
  fun l1 x1 nx h r s Q  => o_iload_n (by decide +kernel : pcode 141 39 = some (6, 1, 0, 0, 0)) rfl,
  fun l1 x1 x2 nx h r s Q  => o_iconst (by decide +kernel : pcode 141 40 = some (1, 0, 0, 0, -1)),
  fun l1 x1 x2 x3 nx h r s Q  => o_icmp_eq (by decide +kernel : pcode 141 41 = some (47, 48, 0, 0, 7)),
  fun l1 x1 nx h r s Q  => o_iconst (by decide +kernel : pcode 141 44 = some (1, 0, 0, 0, 1)),
  fun l1 x1 x2 nx h r s Q  => o_goto (by decide +kernel : pcode 141 45 = some (53, 49, 0, 0, 4)),
  fun l1 x1 nx h r s Q  => o_iconst (by decide +kernel : pcode 141 48 = some (1, 0, 0, 0, 0)),
  fun l1 x1 x2 nx h r s Q  => o_ivV (s1 := [pI x2, pI x1]) (s2 := []) (o := 178) (by decide +kernel : pcode 141 49 = some (78, 135, 3, 1347, 134)) rfl (Nat.le_of_ble_eq_true rfl) (by decide) (by decide +kernel) rfl rfl rfl,
  fun l1 x0 nx h r s Q hz => o_zret (by decide +kernel : pcode 141 52 = some (88, 0, 0, 0, 0)) hz⟩
set_option maxHeartbeats 4000000 in
set_option maxRecDepth 10000 in
theorem st_X8_stateAt :
  (∀ (l1 : Int) (nx : Nat) (h r : PF) (s : Int → Int) (Q : PO → PY → Nat → PC → Prop), (Wp 142 0 [some (pR 178), some (pI l1)] [] LY nx (h, r, s) Q ↔ Wp 142 1 [some (pR 178), some (pI l1)] [pR 178] LY nx (h, r, s) Q)) ∧
  (∀ (l1 : Int) (nx : Nat) (h r : PF) (s : Int → Int) (Q : PO → PY → Nat → PC → Prop), (Wp 142 1 [some (pR 178), some (pI l1)] [pR 178] LY nx (h, r, s) Q ↔ Wp 142 4 [some (pR 178), some (pI l1)] [pI (h 178 17)] LY nx (h, r, s) Q)) ∧
  (∀ (l1 : Int) (x0 : Int) (nx : Nat) (h r : PF) (s : Int → Int) (Q : PO → PY → Nat → PC → Prop), (Wp 142 4 [some (pR 178), some (pI l1)] [pI x0] LY nx (h, r, s) Q ↔ Wp 142 5 [some (pR 178), some (pI l1)] [pI 4, pI x0] LY nx (h, r, s) Q)) ∧
  (∀ (l1 : Int) (x0 : Int) (x1 : Int) (nx : Nat) (h r : PF) (s : Int → Int) (Q : PO → PY → Nat → PC → Prop), (Wp 142 5 [some (pR 178), some (pI l1)] [pI x1, pI x0] LY nx (h, r, s) Q ↔ Wp 142 6 [some (pR 178), some (pI l1)] [pI (w32 (x0 + x1))] LY nx (h, r, s) Q)) ∧
  (∀ (l1 : Int) (x0 : Int) (nx : Nat) (h r : PF) (s : Int → Int) (Q : PO → PY → Nat → PC → Prop), (Wp 142 6 [some (pR 178), some (pI l1)] [pI x0] LY nx (h, r, s) Q ↔ Wp 142 8 [some (pR 178), some (pI l1)] [pI 6, pI x0] LY nx (h, r, s) Q)) ∧
  (∀ (l1 : Int) (x0 : Int) (x1 : Int) (nx : Nat) (h r : PF) (s : Int → Int) (Q : PO → PY → Nat → PC → Prop), (Wp 142 8 [some (pR 178), some (pI l1)] [pI x1, pI x0] LY nx (h, r, s) Q ↔ Wp 142 9 [some (pR 178), some (pI l1)] [pI l1, pI x1, pI x0] LY nx (h, r, s) Q)) ∧
  (∀ (l1 : Int) (x0 : Int) (x1 : Int) (x2 : Int) (nx : Nat) (h r : PF) (s : Int → Int) (Q : PO → PY → Nat → PC → Prop), (Wp 142 9 [some (pR 178), some (pI l1)] [pI x2, pI x1, pI x0] LY nx (h, r, s) Q ↔ Wp 142 10 [some (pR 178), some (pI l1)] [pI (w32 (x1 * x2)), pI x0] LY nx (h, r, s) Q)) ∧
  (∀ (l1 : Int) (x0 : Int) (x1 : Int) (nx : Nat) (h r : PF) (s : Int → Int) (Q : PO → PY → Nat → PC → Prop), (Wp 142 10 [some (pR 178), some (pI l1)] [pI x1, pI x0] LY nx (h, r, s) Q ↔ Wp 142 11 [some (pR 178), some (pI l1)] [pI (w32 (x0 + x1))] LY nx (h, r, s) Q)) ∧
  (∀ (l1 : Int) (x0 : Int) (nx : Nat) (h r : PF) (s : Int → Int) (Q : PO → PY → Nat → PC → Prop), (Wp 142 11 [some (pR 178), some (pI l1)] [pI x0] LY nx (h, r, s) Q ↔ Q (Sum.inl (some (pI x0))) LY nx (h, r, s))) :=
  ⟨fun l1 nx h r s Q  => o_aload_n (by decide +kernel : pcode 142 0 = some (10, 0, 0, 0, 0)) rfl,
  fun l1 nx h r s Q  => o_getI (by decide +kernel : pcode 142 1 = some (55, 1234, 8, 17, 151)) (by decide) (by decide +kernel),
  fun l1 x0 nx h r s Q  => o_iconst (by decide +kernel : pcode 142 4 = some (1, 0, 0, 0, 4)),
  fun l1 x0 x1 nx h r s Q  => o_iadd (by decide +kernel : pcode 142 5 = some (19, 0, 0, 0, 0)),
  fun l1 x0 nx h r s Q  => o_bipush (by decide +kernel : pcode 142 6 = some (2, 0, 0, 0, 6)),
  fun l1 x0 x1 nx h r s Q  => o_iload_n (by decide +kernel : pcode 142 8 = some (6, 1, 0, 0, 0)) rfl,
  fun l1 x0 x1 x2 nx h r s Q  => o_imul (by decide +kernel : pcode 142 9 = some (21, 0, 0, 0, 0)),
  fun l1 x0 x1 nx h r s Q  => o_iadd (by decide +kernel : pcode 142 10 = some (19, 0, 0, 0, 0)),
  fun l1 x0 nx h r s Q  => o_iret (by decide +kernel : pcode 142 11 = some (87, 0, 0, 0, 0))⟩
set_option maxHeartbeats 4000000 in
set_option maxRecDepth 10000 in
theorem st_X8_stateRead :
  (∀ (l1 : Int) (nx : Nat) (h r : PF) (s : Int → Int) (Q : PO → PY → Nat → PC → Prop), (Wp 143 0 [some (pR 178), some (pI l1), none] [] LY nx (h, r, s) Q ↔ Wp 143 1 [some (pR 178), some (pI l1), none] [pR 178] LY nx (h, r, s) Q)) ∧
  (∀ (l1 : Int) (nx : Nat) (h r : PF) (s : Int → Int) (Q : PO → PY → Nat → PC → Prop), WFr r → (Wp 143 1 [some (pR 178), some (pI l1), none] [pR 178] LY nx (h, r, s) Q ↔ Wp 143 4 [some (pR 178), some (pI l1), none] [pR 182] LY nx (h, r, s) Q)) ∧
  (∀ (l1 : Int) (nx : Nat) (h r : PF) (s : Int → Int) (Q : PO → PY → Nat → PC → Prop), (Wp 143 4 [some (pR 178), some (pI l1), none] [pR 182] LY nx (h, r, s) Q ↔ Wp 143 5 [some (pR 178), some (pI l1), none] [pR 178, pR 182] LY nx (h, r, s) Q)) ∧
  (∀ (l1 : Int) (nx : Nat) (h r : PF) (s : Int → Int) (Q : PO → PY → Nat → PC → Prop), (Wp 143 5 [some (pR 178), some (pI l1), none] [pR 178, pR 182] LY nx (h, r, s) Q ↔ Wp 143 8 [some (pR 178), some (pI l1), none] [pI (h 178 17), pR 182] LY nx (h, r, s) Q)) ∧
  (∀ (l1 : Int) (x1 : Int) (nx : Nat) (h r : PF) (s : Int → Int) (Q : PO → PY → Nat → PC → Prop), (Wp 143 8 [some (pR 178), some (pI l1), none] [pI x1, pR 182] LY nx (h, r, s) Q ↔ Wp 143 9 [some (pR 178), some (pI l1), none] [pI 2, pI x1, pR 182] LY nx (h, r, s) Q)) ∧
  (∀ (l1 : Int) (x1 : Int) (x2 : Int) (nx : Nat) (h r : PF) (s : Int → Int) (Q : PO → PY → Nat → PC → Prop), (Wp 143 9 [some (pR 178), some (pI l1), none] [pI x2, pI x1, pR 182] LY nx (h, r, s) Q ↔ Wp 143 10 [some (pR 178), some (pI l1), none] [pI (w32 (x1 + x2)), pR 182] LY nx (h, r, s) Q)) ∧
  (∀ (l1 : Int) (x1 : Int) (nx : Nat) (h r : PF) (s : Int → Int) (Q : PO → PY → Nat → PC → Prop), 0 ≤ x1 → x1 < 164 → (Wp 143 10 [some (pR 178), some (pI l1), none] [pI x1, pR 182] LY nx (h, r, s) Q ↔ Wp 143 11 [some (pR 178), some (pI l1), none] [pI (h 182 x1)] LY nx (h, r, s) Q)) ∧
  (∀ (l1 : Int) (x0 : Int) (nx : Nat) (h r : PF) (s : Int → Int) (Q : PO → PY → Nat → PC → Prop), (Wp 143 11 [some (pR 178), some (pI l1), none] [pI x0] LY nx (h, r, s) Q ↔ Wp 143 12 [some (pR 178), some (pI l1), some (pI x0)] [] LY nx (h, r, s) Q)) ∧
  (∀ (l1 : Int) (l2 : Int) (nx : Nat) (h r : PF) (s : Int → Int) (Q : PO → PY → Nat → PC → Prop), (Wp 143 12 [some (pR 178), some (pI l1), some (pI l2)] [] LY nx (h, r, s) Q ↔ Wp 143 13 [some (pR 178), some (pI l1), some (pI l2)] [pR 178] LY nx (h, r, s) Q)) ∧
  (∀ (l1 : Int) (l2 : Int) (nx : Nat) (h r : PF) (s : Int → Int) (Q : PO → PY → Nat → PC → Prop), (Wp 143 13 [some (pR 178), some (pI l1), some (pI l2)] [pR 178] LY nx (h, r, s) Q ↔ Wp 143 16 [some (pR 178), some (pI l1), some (pI l2)] [pI (h 178 8)] LY nx (h, r, s) Q)) ∧
  (∀ (l1 : Int) (l2 : Int) (x0 : Int) (nx : Nat) (h r : PF) (s : Int → Int) (Q : PO → PY → Nat → PC → Prop), (Wp 143 16 [some (pR 178), some (pI l1), some (pI l2)] [pI x0] LY nx (h, r, s) Q ↔ Wp 143 17 [some (pR 178), some (pI l1), some (pI l2)] [pI 2, pI x0] LY nx (h, r, s) Q)) ∧
  (∀ (l1 : Int) (l2 : Int) (x0 : Int) (x1 : Int) (nx : Nat) (h r : PF) (s : Int → Int) (Q : PO → PY → Nat → PC → Prop), (Wp 143 17 [some (pR 178), some (pI l1), some (pI l2)] [pI x1, pI x0] LY nx (h, r, s) Q ↔ (if x0 ≠ x1 then Wp 143 56 [some (pR 178), some (pI l1), some (pI l2)] [] LY nx (h, r, s) Q else Wp 143 20 [some (pR 178), some (pI l1), some (pI l2)] [] LY nx (h, r, s) Q))) ∧
  (∀ (l1 : Int) (l2 : Int) (nx : Nat) (h r : PF) (s : Int → Int) (Q : PO → PY → Nat → PC → Prop), (Wp 143 20 [some (pR 178), some (pI l1), some (pI l2)] [] LY nx (h, r, s) Q ↔ Wp 143 21 [some (pR 178), some (pI l1), some (pI l2)] [pR 178] LY nx (h, r, s) Q)) ∧
  (∀ (l1 : Int) (l2 : Int) (nx : Nat) (h r : PF) (s : Int → Int) (Q : PO → PY → Nat → PC → Prop), (Wp 143 21 [some (pR 178), some (pI l1), some (pI l2)] [pR 178] LY nx (h, r, s) Q ↔ Wp 143 24 [some (pR 178), some (pI l1), some (pI l2)] [pI (h 178 9)] LY nx (h, r, s) Q)) ∧
  (∀ (l1 : Int) (l2 : Int) (x0 : Int) (nx : Nat) (h r : PF) (s : Int → Int) (Q : PO → PY → Nat → PC → Prop), (Wp 143 24 [some (pR 178), some (pI l1), some (pI l2)] [pI x0] LY nx (h, r, s) Q ↔ Wp 143 25 [some (pR 178), some (pI l1), some (pI l2)] [pI l2, pI x0] LY nx (h, r, s) Q)) ∧
  (∀ (l1 : Int) (l2 : Int) (x0 : Int) (x1 : Int) (nx : Nat) (h r : PF) (s : Int → Int) (Q : PO → PY → Nat → PC → Prop), (Wp 143 25 [some (pR 178), some (pI l1), some (pI l2)] [pI x1, pI x0] LY nx (h, r, s) Q ↔ (if x1 ≤ x0 then Wp 143 56 [some (pR 178), some (pI l1), some (pI l2)] [] LY nx (h, r, s) Q else Wp 143 28 [some (pR 178), some (pI l1), some (pI l2)] [] LY nx (h, r, s) Q))) ∧
  (∀ (l1 : Int) (l2 : Int) (nx : Nat) (h r : PF) (s : Int → Int) (Q : PO → PY → Nat → PC → Prop), (Wp 143 28 [some (pR 178), some (pI l1), some (pI l2)] [] LY nx (h, r, s) Q ↔ Wp 143 29 [some (pR 178), some (pI l1), some (pI l2)] [pI l1] LY nx (h, r, s) Q)) ∧
  (∀ (l1 : Int) (l2 : Int) (x0 : Int) (nx : Nat) (h r : PF) (s : Int → Int) (Q : PO → PY → Nat → PC → Prop), (Wp 143 29 [some (pR 178), some (pI l1), some (pI l2)] [pI x0] LY nx (h, r, s) Q ↔ (if x0 < 0 then Wp 143 56 [some (pR 178), some (pI l1), some (pI l2)] [] LY nx (h, r, s) Q else Wp 143 32 [some (pR 178), some (pI l1), some (pI l2)] [] LY nx (h, r, s) Q))) ∧
  (∀ (l1 : Int) (l2 : Int) (nx : Nat) (h r : PF) (s : Int → Int) (Q : PO → PY → Nat → PC → Prop), (Wp 143 32 [some (pR 178), some (pI l1), some (pI l2)] [] LY nx (h, r, s) Q ↔ Wp 143 33 [some (pR 178), some (pI l1), some (pI l2)] [pR 178] LY nx (h, r, s) Q)) ∧
  (∀ (l1 : Int) (l2 : Int) (nx : Nat) (h r : PF) (s : Int → Int) (Q : PO → PY → Nat → PC → Prop), WFr r → (Wp 143 33 [some (pR 178), some (pI l1), some (pI l2)] [pR 178] LY nx (h, r, s) Q ↔ Wp 143 36 [some (pR 178), some (pI l1), some (pI l2)] [pR 182] LY nx (h, r, s) Q)) ∧
  (∀ (l1 : Int) (l2 : Int) (nx : Nat) (h r : PF) (s : Int → Int) (Q : PO → PY → Nat → PC → Prop), (Wp 143 36 [some (pR 178), some (pI l1), some (pI l2)] [pR 182] LY nx (h, r, s) Q ↔ Wp 143 37 [some (pR 178), some (pI l1), some (pI l2)] [pR 178, pR 182] LY nx (h, r, s) Q)) ∧
  (∀ (l1 : Int) (l2 : Int) (nx : Nat) (h r : PF) (s : Int → Int) (Q : PO → PY → Nat → PC → Prop), (Wp 143 37 [some (pR 178), some (pI l1), some (pI l2)] [pR 178, pR 182] LY nx (h, r, s) Q ↔ Wp 143 38 [some (pR 178), some (pI l1), some (pI l2)] [pR 178, pR 178, pR 182] LY nx (h, r, s) Q)) ∧
  (∀ (l1 : Int) (l2 : Int) (nx : Nat) (h r : PF) (s : Int → Int) (Q : PO → PY → Nat → PC → Prop), (Wp 143 38 [some (pR 178), some (pI l1), some (pI l2)] [pR 178, pR 178, pR 182] LY nx (h, r, s) Q ↔ Wp 143 41 [some (pR 178), some (pI l1), some (pI l2)] [pI (h 178 9), pR 178, pR 182] LY nx (h, r, s) Q)) ∧
  (∀ (l1 : Int) (l2 : Int) (x2 : Int) (nx : Nat) (h r : PF) (s : Int → Int) (Q : PO → PY → Nat → PC → Prop), (Wp 143 41 [some (pR 178), some (pI l1), some (pI l2)] [pI x2, pR 178, pR 182] LY nx (h, r, s) Q ↔ Wp 142 0 [some (pR 178), some (pI x2)] [] LY nx (h, r, s) (Kc 143 41 [some (pR 178), some (pI l1), some (pI l2)] 44 [pR 182] Q))) ∧
  (∀ (l1 : Int) (l2 : Int) (x1 : Int) (nx : Nat) (h r : PF) (s : Int → Int) (Q : PO → PY → Nat → PC → Prop), (Wp 143 44 [some (pR 178), some (pI l1), some (pI l2)] [pI x1, pR 182] LY nx (h, r, s) Q ↔ Wp 143 45 [some (pR 178), some (pI l1), some (pI l2)] [pI l1, pI x1, pR 182] LY nx (h, r, s) Q)) ∧
  (∀ (l1 : Int) (l2 : Int) (x1 : Int) (x2 : Int) (nx : Nat) (h r : PF) (s : Int → Int) (Q : PO → PY → Nat → PC → Prop), (Wp 143 45 [some (pR 178), some (pI l1), some (pI l2)] [pI x2, pI x1, pR 182] LY nx (h, r, s) Q ↔ Wp 143 46 [some (pR 178), some (pI l1), some (pI l2)] [pI (w32 (x1 + x2)), pR 182] LY nx (h, r, s) Q)) ∧
  (∀ (l1 : Int) (l2 : Int) (x1 : Int) (nx : Nat) (h r : PF) (s : Int → Int) (Q : PO → PY → Nat → PC → Prop), 0 ≤ x1 → x1 < 164 → (Wp 143 46 [some (pR 178), some (pI l1), some (pI l2)] [pI x1, pR 182] LY nx (h, r, s) Q ↔ Wp 143 47 [some (pR 178), some (pI l1), some (pI l2)] [pI (h 182 x1)] LY nx (h, r, s) Q)) ∧
  (∀ (l1 : Int) (l2 : Int) (x0 : Int) (nx : Nat) (h r : PF) (s : Int → Int) (Q : PO → PY → Nat → PC → Prop), (Wp 143 47 [some (pR 178), some (pI l1), some (pI l2)] [pI x0] LY nx (h, r, s) Q ↔ (if x0 = 0 then Wp 143 56 [some (pR 178), some (pI l1), some (pI l2)] [] LY nx (h, r, s) Q else Wp 143 50 [some (pR 178), some (pI l1), some (pI l2)] [] LY nx (h, r, s) Q))) ∧
  (∀ (l1 : Int) (l2 : Int) (nx : Nat) (h r : PF) (s : Int → Int) (Q : PO → PY → Nat → PC → Prop), (Wp 143 50 [some (pR 178), some (pI l1), some (pI l2)] [] LY nx (h, r, s) Q ↔ Wp 143 51 [some (pR 178), some (pI l1), some (pI l2)] [pR 178] LY nx (h, r, s) Q)) ∧
  (∀ (l1 : Int) (l2 : Int) (nx : Nat) (h r : PF) (s : Int → Int) (Q : PO → PY → Nat → PC → Prop), (Wp 143 51 [some (pR 178), some (pI l1), some (pI l2)] [pR 178] LY nx (h, r, s) Q ↔ Wp 143 52 [some (pR 178), some (pI l1), some (pI l2)] [pI 2, pR 178] LY nx (h, r, s) Q)) ∧
  (∀ (l1 : Int) (l2 : Int) (x1 : Int) (nx : Nat) (h r : PF) (s : Int → Int) (Q : PO → PY → Nat → PC → Prop), (Wp 143 52 [some (pR 178), some (pI l1), some (pI l2)] [pI x1, pR 178] LY nx (h, r, s) Q ↔ Wp 134 0 [some (pR 178), some (pI x1)] [] LY nx (h, r, s) (Kc 143 52 [some (pR 178), some (pI l1), some (pI l2)] 55 [] Q))) ∧
  (∀ (l1 : Int) (l2 : Int) (x0 : Int) (nx : Nat) (h r : PF) (s : Int → Int) (Q : PO → PY → Nat → PC → Prop), x0 = 0 ∨ x0 = 1 → (Wp 143 55 [some (pR 178), some (pI l1), some (pI l2)] [pI x0] LY nx (h, r, s) Q ↔ Q (Sum.inl (some (pI x0))) LY nx (h, r, s))) ∧
  (∀ (l1 : Int) (l2 : Int) (nx : Nat) (h r : PF) (s : Int → Int) (Q : PO → PY → Nat → PC → Prop), (Wp 143 56 [some (pR 178), some (pI l1), some (pI l2)] [] LY nx (h, r, s) Q ↔ Wp 143 57 [some (pR 178), some (pI l1), some (pI l2)] [pR 178] LY nx (h, r, s) Q)) ∧
  (∀ (l1 : Int) (l2 : Int) (nx : Nat) (h r : PF) (s : Int → Int) (Q : PO → PY → Nat → PC → Prop), (Wp 143 57 [some (pR 178), some (pI l1), some (pI l2)] [pR 178] LY nx (h, r, s) Q ↔ Wp 143 58 [some (pR 178), some (pI l1), some (pI l2)] [pI 0, pR 178] LY nx (h, r, s) Q)) ∧
  (∀ (l1 : Int) (l2 : Int) (x1 : Int) (nx : Nat) (h r : PF) (s : Int → Int) (Q : PO → PY → Nat → PC → Prop), (Wp 143 58 [some (pR 178), some (pI l1), some (pI l2)] [pI x1, pR 178] LY nx (h, r, s) Q ↔ Wp 143 59 [some (pR 178), some (pI l1), some (pI l2)] [pI l2, pI x1, pR 178] LY nx (h, r, s) Q)) ∧
  (∀ (l1 : Int) (l2 : Int) (x1 : Int) (x2 : Int) (nx : Nat) (h r : PF) (s : Int → Int) (Q : PO → PY → Nat → PC → Prop), (Wp 143 59 [some (pR 178), some (pI l1), some (pI l2)] [pI x2, pI x1, pR 178] LY nx (h, r, s) Q ↔ Wp 143 60 [some (pR 178), some (pI l1), some (pI l2)] [pI 1, pI x2, pI x1, pR 178] LY nx (h, r, s) Q)) ∧
  (∀ (l1 : Int) (l2 : Int) (x1 : Int) (x2 : Int) (x3 : Int) (nx : Nat) (h r : PF) (s : Int → Int) (Q : PO → PY → Nat → PC → Prop), (Wp 143 60 [some (pR 178), some (pI l1), some (pI l2)] [pI x3, pI x2, pI x1, pR 178] LY nx (h, r, s) Q ↔ Wp 143 61 [some (pR 178), some (pI l1), some (pI l2)] [pI (w32 (x2 - x3)), pI x1, pR 178] LY nx (h, r, s) Q)) ∧
  (∀ (l1 : Int) (l2 : Int) (x1 : Int) (x2 : Int) (nx : Nat) (h r : PF) (s : Int → Int) (Q : PO → PY → Nat → PC → Prop), (Wp 143 61 [some (pR 178), some (pI l1), some (pI l2)] [pI x2, pI x1, pR 178] LY nx (h, r, s) Q ↔ Wp 136 0 [some (pR 178), some (pI x1), some (pI x2)] [] LY nx (h, r, s) (Kc 143 61 [some (pR 178), some (pI l1), some (pI l2)] 64 [] Q))) ∧
  (∀ (l1 : Int) (l2 : Int) (x0 : Int) (nx : Nat) (h r : PF) (s : Int → Int) (Q : PO → PY → Nat → PC → Prop), x0 = 0 ∨ x0 = 1 → (Wp 143 64 [some (pR 178), some (pI l1), some (pI l2)] [pI x0] LY nx (h, r, s) Q ↔ Q (Sum.inl (some (pI x0))) LY nx (h, r, s))) :=
  ⟨fun l1 nx h r s Q  => o_aload_n (by decide +kernel : pcode 143 0 = some (10, 0, 0, 0, 0)) rfl,
  fun l1 nx h r s Q hw => o_getR (h := (h, r, s)) (by decide +kernel : pcode 143 1 = some (57, 1232, 8, 15, 24)) (by decide) (by decide +kernel) (hw _ (List.mem_of_getElem? (i := 175) rfl)) (by decide),
  fun l1 nx h r s Q  => o_aload_n (by decide +kernel : pcode 143 4 = some (10, 0, 0, 0, 0)) rfl,
  fun l1 nx h r s Q  => o_getI (by decide +kernel : pcode 143 5 = some (55, 1234, 8, 17, 151)) (by decide) (by decide +kernel),
  fun l1 x1 nx h r s Q  => o_iconst (by decide +kernel : pcode 143 8 = some (1, 0, 0, 0, 2)),
  fun l1 x1 x2 nx h r s Q  => o_iadd (by decide +kernel : pcode 143 9 = some (19, 0, 0, 0, 0)),
  fun l1 x1 nx h r s Q hi hn => o_iald (h := (h, r, s)) (n := 164) (by decide +kernel : pcode 143 10 = some (63, 0, 0, 0, 0)) (by decide) (by decide +kernel) hi hn,
  fun l1 x0 nx h r s Q  => o_istore_n (by decide +kernel : pcode 143 11 = some (12, 2, 0, 0, 0)) rfl,
  fun l1 l2 nx h r s Q  => o_aload_n (by decide +kernel : pcode 143 12 = some (10, 0, 0, 0, 0)) rfl,
  fun l1 l2 nx h r s Q  => o_getI (by decide +kernel : pcode 143 13 = some (55, 1225, 8, 8, 101)) (by decide) (by decide +kernel),
  fun l1 l2 x0 nx h r s Q  => o_iconst (by decide +kernel : pcode 143 16 = some (1, 0, 0, 0, 2)),
  fun l1 l2 x0 x1 nx h r s Q  => o_icmp_ne (by decide +kernel : pcode 143 17 = some (48, 56, 0, 0, 39)),
  fun l1 l2 nx h r s Q  => o_aload_n (by decide +kernel : pcode 143 20 = some (10, 0, 0, 0, 0)) rfl,
  fun l1 l2 nx h r s Q  => o_getI (by decide +kernel : pcode 143 21 = some (55, 1226, 8, 9, 94)) (by decide) (by decide +kernel),
  fun l1 l2 x0 nx h r s Q  => o_iload_n (by decide +kernel : pcode 143 24 = some (6, 2, 0, 0, 0)) rfl,
  fun l1 l2 x0 x1 nx h r s Q  => o_icmp_ge (by decide +kernel : pcode 143 25 = some (50, 56, 0, 0, 31)),
  fun l1 l2 nx h r s Q  => o_iload_n (by decide +kernel : pcode 143 28 = some (6, 1, 0, 0, 0)) rfl,
  fun l1 l2 x0 nx h r s Q  => o_if_lt (by decide +kernel : pcode 143 29 = some (43, 56, 0, 0, 27)),
  fun l1 l2 nx h r s Q  => o_aload_n (by decide +kernel : pcode 143 32 = some (10, 0, 0, 0, 0)) rfl,
  fun l1 l2 nx h r s Q hw => o_getR (h := (h, r, s)) (by decide +kernel : pcode 143 33 = some (57, 1232, 8, 15, 24)) (by decide) (by decide +kernel) (hw _ (List.mem_of_getElem? (i := 175) rfl)) (by decide),
  fun l1 l2 nx h r s Q  => o_aload_n (by decide +kernel : pcode 143 36 = some (10, 0, 0, 0, 0)) rfl,
  fun l1 l2 nx h r s Q  => o_aload_n (by decide +kernel : pcode 143 37 = some (10, 0, 0, 0, 0)) rfl,
  fun l1 l2 nx h r s Q  => o_getI (by decide +kernel : pcode 143 38 = some (55, 1226, 8, 9, 94)) (by decide) (by decide +kernel),
  fun l1 l2 x2 nx h r s Q  => o_ivV (s1 := [pI x2]) (s2 := [pR 182]) (o := 178) (by decide +kernel : pcode 143 41 = some (78, 142, 2, 1394, 154)) rfl (Nat.le_of_ble_eq_true rfl) (by decide) (by decide +kernel) rfl rfl rfl,
  fun l1 l2 x1 nx h r s Q  => o_iload_n (by decide +kernel : pcode 143 44 = some (6, 1, 0, 0, 0)) rfl,
  fun l1 l2 x1 x2 nx h r s Q  => o_iadd (by decide +kernel : pcode 143 45 = some (19, 0, 0, 0, 0)),
  fun l1 l2 x1 nx h r s Q hi hn => o_iald (h := (h, r, s)) (n := 164) (by decide +kernel : pcode 143 46 = some (63, 0, 0, 0, 0)) (by decide) (by decide +kernel) hi hn,
  fun l1 l2 x0 nx h r s Q  => o_if_eq (by decide +kernel : pcode 143 47 = some (41, 56, 0, 0, 9)),
  fun l1 l2 nx h r s Q  => o_aload_n (by decide +kernel : pcode 143 50 = some (10, 0, 0, 0, 0)) rfl,
  fun l1 l2 nx h r s Q  => o_iconst (by decide +kernel : pcode 143 51 = some (1, 0, 0, 0, 2)),
  fun l1 l2 x1 nx h r s Q  => o_ivV (s1 := [pI x1]) (s2 := []) (o := 178) (by decide +kernel : pcode 143 52 = some (78, 134, 2, 1351, 120)) rfl (Nat.le_of_ble_eq_true rfl) (by decide) (by decide +kernel) rfl rfl rfl,
  fun l1 l2 x0 nx h r s Q hz => o_zret (by decide +kernel : pcode 143 55 = some (88, 0, 0, 0, 0)) hz,
  fun l1 l2 nx h r s Q  => o_aload_n (by decide +kernel : pcode 143 56 = some (10, 0, 0, 0, 0)) rfl,
  fun l1 l2 nx h r s Q  => o_iconst (by decide +kernel : pcode 143 57 = some (1, 0, 0, 0, 0)),
  fun l1 l2 x1 nx h r s Q  => o_iload_n (by decide +kernel : pcode 143 58 = some (6, 2, 0, 0, 0)) rfl,
  fun l1 l2 x1 x2 nx h r s Q  => o_iconst (by decide +kernel : pcode 143 59 = some (1, 0, 0, 0, 1)),
  fun l1 l2 x1 x2 x3 nx h r s Q  => o_isub (by decide +kernel : pcode 143 60 = some (20, 0, 0, 0, 0)),
  fun l1 l2 x1 x2 nx h r s Q  => o_ivV (s1 := [pI x2, pI x1]) (s2 := []) (o := 178) (by decide +kernel : pcode 143 61 = some (78, 136, 3, 1359, 130)) rfl (Nat.le_of_ble_eq_true rfl) (by decide) (by decide +kernel) rfl rfl rfl,
  fun l1 l2 x0 nx h r s Q hz => o_zret (by decide +kernel : pcode 143 64 = some (88, 0, 0, 0, 0)) hz⟩
set_option maxHeartbeats 4000000 in
set_option maxRecDepth 10000 in
theorem st_X8_goLine_0 :
  (∀  (nx : Nat) (h r : PF) (s : Int → Int) (Q : PO → PY → Nat → PC → Prop), (Wp 144 0 [some (pR 178), none, none, none] [] LY nx (h, r, s) Q ↔ Wp 144 1 [some (pR 178), none, none, none] [pR 178] LY nx (h, r, s) Q)) ∧
  (∀  (nx : Nat) (h r : PF) (s : Int → Int) (Q : PO → PY → Nat → PC → Prop), (Wp 144 1 [some (pR 178), none, none, none] [pR 178] LY nx (h, r, s) Q ↔ Wp 141 0 [some (pR 178), none] [] LY nx (h, r, s) (Kc 144 1 [some (pR 178), none, none, none] 4 [] Q))) ∧
  (∀ (x0 : Int) (nx : Nat) (h r : PF) (s : Int → Int) (Q : PO → PY → Nat → PC → Prop), (Wp 144 4 [some (pR 178), none, none, none] [pI x0] LY nx (h, r, s) Q ↔ (if x0 = 0 then Wp 144 15 [some (pR 178), none, none, none] [] LY nx (h, r, s) Q else Wp 144 7 [some (pR 178), none, none, none] [] LY nx (h, r, s) Q))) ∧
  (∀  (nx : Nat) (h r : PF) (s : Int → Int) (Q : PO → PY → Nat → PC → Prop), (Wp 144 7 [some (pR 178), none, none, none] [] LY nx (h, r, s) Q ↔ Wp 144 8 [some (pR 178), none, none, none] [pR 178] LY nx (h, r, s) Q)) ∧
  (∀  (nx : Nat) (h r : PF) (s : Int → Int) (Q : PO → PY → Nat → PC → Prop), (Wp 144 8 [some (pR 178), none, none, none] [pR 178] LY nx (h, r, s) Q ↔ Wp 144 9 [some (pR 178), none, none, none] [pI (-1), pR 178] LY nx (h, r, s) Q)) ∧
  (∀ (x1 : Int) (nx : Nat) (h r : PF) (s : Int → Int) (Q : PO → PY → Nat → PC → Prop), (Wp 144 9 [some (pR 178), none, none, none] [pI x1, pR 178] LY nx (h, r, s) Q ↔ Wp 143 0 [some (pR 178), some (pI x1), none] [] LY nx (h, r, s) (Kc 144 9 [some (pR 178), none, none, none] 12 [] Q))) ∧
  (∀ (x0 : Int) (nx : Nat) (h r : PF) (s : Int → Int) (Q : PO → PY → Nat → PC → Prop), (Wp 144 12 [some (pR 178), none, none, none] [pI x0] LY nx (h, r, s) Q ↔ (if x0 ≠ 0 then Wp 144 17 [some (pR 178), none, none, none] [] LY nx (h, r, s) Q else Wp 144 15 [some (pR 178), none, none, none] [] LY nx (h, r, s) Q))) ∧
  (∀  (nx : Nat) (h r : PF) (s : Int → Int) (Q : PO → PY → Nat → PC → Prop), (Wp 144 15 [some (pR 178), none, none, none] [] LY nx (h, r, s) Q ↔ Wp 144 16 [some (pR 178), none, none, none] [pI 0] LY nx (h, r, s) Q)) ∧
  (∀ (x0 : Int) (nx : Nat) (h r : PF) (s : Int → Int) (Q : PO → PY → Nat → PC → Prop), x0 = 0 ∨ x0 = 1 → (Wp 144 16 [some (pR 178), none, none, none] [pI x0] LY nx (h, r, s) Q ↔ Q (Sum.inl (some (pI x0))) LY nx (h, r, s))) ∧
  (∀  (nx : Nat) (h r : PF) (s : Int → Int) (Q : PO → PY → Nat → PC → Prop), (Wp 144 17 [some (pR 178), none, none, none] [] LY nx (h, r, s) Q ↔ Wp 144 18 [some (pR 178), none, none, none] [pR 178] LY nx (h, r, s) Q)) ∧
  (∀  (nx : Nat) (h r : PF) (s : Int → Int) (Q : PO → PY → Nat → PC → Prop), (Wp 144 18 [some (pR 178), none, none, none] [pR 178] LY nx (h, r, s) Q ↔ Wp 144 21 [some (pR 178), none, none, none] [pI (h 178 13)] LY nx (h, r, s) Q)) ∧
  (∀ (x0 : Int) (nx : Nat) (h r : PF) (s : Int → Int) (Q : PO → PY → Nat → PC → Prop), (Wp 144 21 [some (pR 178), none, none, none] [pI x0] LY nx (h, r, s) Q ↔ Wp 144 22 [some (pR 178), some (pI x0), none, none] [] LY nx (h, r, s) Q)) ∧
  (∀ (l1 : Int) (nx : Nat) (h r : PF) (s : Int → Int) (Q : PO → PY → Nat → PC → Prop), (Wp 144 22 [some (pR 178), some (pI l1), none, none] [] LY nx (h, r, s) Q ↔ Wp 144 23 [some (pR 178), some (pI l1), none, none] [pR 178] LY nx (h, r, s) Q)) ∧
  (∀ (l1 : Int) (nx : Nat) (h r : PF) (s : Int → Int) (Q : PO → PY → Nat → PC → Prop), (Wp 144 23 [some (pR 178), some (pI l1), none, none] [pR 178] LY nx (h, r, s) Q ↔ Wp 144 26 [some (pR 178), some (pI l1), none, none] [pI (h 178 8)] LY nx (h, r, s) Q)) ∧
  (∀ (l1 : Int) (x0 : Int) (nx : Nat) (h r : PF) (s : Int → Int) (Q : PO → PY → Nat → PC → Prop), (Wp 144 26 [some (pR 178), some (pI l1), none, none] [pI x0] LY nx (h, r, s) Q ↔ Wp 144 27 [some (pR 178), some (pI l1), none, none] [pI 1, pI x0] LY nx (h, r, s) Q)) ∧
  (∀ (l1 : Int) (x0 : Int) (x1 : Int) (nx : Nat) (h r : PF) (s : Int → Int) (Q : PO → PY → Nat → PC → Prop), (Wp 144 27 [some (pR 178), some (pI l1), none, none] [pI x1, pI x0] LY nx (h, r, s) Q ↔ (if x0 = x1 then Wp 144 36 [some (pR 178), some (pI l1), none, none] [] LY nx (h, r, s) Q else Wp 144 30 [some (pR 178), some (pI l1), none, none] [] LY nx (h, r, s) Q))) ∧
  (∀ (l1 : Int) (nx : Nat) (h r : PF) (s : Int → Int) (Q : PO → PY → Nat → PC → Prop), (Wp 144 30 [some (pR 178), some (pI l1), none, none] [] LY nx (h, r, s) Q ↔ Wp 144 31 [some (pR 178), some (pI l1), none, none] [pR 178] LY nx (h, r, s) Q)) ∧
  (∀ (l1 : Int) (nx : Nat) (h r : PF) (s : Int → Int) (Q : PO → PY → Nat → PC → Prop), (Wp 144 31 [some (pR 178), some (pI l1), none, none] [pR 178] LY nx (h, r, s) Q ↔ Wp 144 32 [some (pR 178), some (pI l1), none, none] [pI 1, pR 178] LY nx (h, r, s) Q)) ∧
  (∀ (l1 : Int) (x1 : Int) (nx : Nat) (h r : PF) (s : Int → Int) (Q : PO → PY → Nat → PC → Prop), (Wp 144 32 [some (pR 178), some (pI l1), none, none] [pI x1, pR 178] LY nx (h, r, s) Q ↔ Wp 134 0 [some (pR 178), some (pI x1)] [] LY nx (h, r, s) (Kc 144 32 [some (pR 178), some (pI l1), none, none] 35 [] Q))) ∧
  (∀ (l1 : Int) (x0 : Int) (nx : Nat) (h r : PF) (s : Int → Int) (Q : PO → PY → Nat → PC → Prop), x0 = 0 ∨ x0 = 1 → (Wp 144 35 [some (pR 178), some (pI l1), none, none] [pI x0] LY nx (h, r, s) Q ↔ Q (Sum.inl (some (pI x0))) LY nx (h, r, s))) ∧
  (∀ (l1 : Int) (nx : Nat) (h r : PF) (s : Int → Int) (Q : PO → PY → Nat → PC → Prop), (Wp 144 36 [some (pR 178), some (pI l1), none, none] [] LY nx (h, r, s) Q ↔ Wp 144 37 [some (pR 178), some (pI l1), none, none] [pR 178] LY nx (h, r, s) Q)) ∧
  (∀ (l1 : Int) (nx : Nat) (h r : PF) (s : Int → Int) (Q : PO → PY → Nat → PC → Prop), (Wp 144 37 [some (pR 178), some (pI l1), none, none] [pR 178] LY nx (h, r, s) Q ↔ Wp 144 40 [some (pR 178), some (pI l1), none, none] [pI (h 178 7)] LY nx (h, r, s) Q)) ∧
  (∀ (l1 : Int) (x0 : Int) (nx : Nat) (h r : PF) (s : Int → Int) (Q : PO → PY → Nat → PC → Prop), (Wp 144 40 [some (pR 178), some (pI l1), none, none] [pI x0] LY nx (h, r, s) Q ↔ Wp 144 41 [some (pR 178), some (pI l1), none, none] [pR 178, pI x0] LY nx (h, r, s) Q)) ∧
  (∀ (l1 : Int) (x0 : Int) (nx : Nat) (h r : PF) (s : Int → Int) (Q : PO → PY → Nat → PC → Prop), (Wp 144 41 [some (pR 178), some (pI l1), none, none] [pR 178, pI x0] LY nx (h, r, s) Q ↔ Wp 144 44 [some (pR 178), some (pI l1), none, none] [pI (h 178 6), pI x0] LY nx (h, r, s) Q)) ∧
  (∀ (l1 : Int) (x0 : Int) (x1 : Int) (nx : Nat) (h r : PF) (s : Int → Int) (Q : PO → PY → Nat → PC → Prop), (Wp 144 44 [some (pR 178), some (pI l1), none, none] [pI x1, pI x0] LY nx (h, r, s) Q ↔ Wp 144 45 [some (pR 178), some (pI l1), none, none] [pI (w32 (x0 - x1))] LY nx (h, r, s) Q)) ∧
  (∀ (l1 : Int) (x0 : Int) (nx : Nat) (h r : PF) (s : Int → Int) (Q : PO → PY → Nat → PC → Prop), (Wp 144 45 [some (pR 178), some (pI l1), none, none] [pI x0] LY nx (h, r, s) Q ↔ Wp 144 46 [some (pR 178), some (pI l1), none, none] [pI 1, pI x0] LY nx (h, r, s) Q)) ∧
  (∀ (l1 : Int) (x0 : Int) (x1 : Int) (nx : Nat) (h r : PF) (s : Int → Int) (Q : PO → PY → Nat → PC → Prop), (Wp 144 46 [some (pR 178), some (pI l1), none, none] [pI x1, pI x0] LY nx (h, r, s) Q ↔ (if x0 ≠ x1 then Wp 144 60 [some (pR 178), some (pI l1), none, none] [] LY nx (h, r, s) Q else Wp 144 49 [some (pR 178), some (pI l1), none, none] [] LY nx (h, r, s) Q))) ∧
  (∀ (l1 : Int) (nx : Nat) (h r : PF) (s : Int → Int) (Q : PO → PY → Nat → PC → Prop), (Wp 144 49 [some (pR 178), some (pI l1), none, none] [] LY nx (h, r, s) Q ↔ Wp 144 50 [some (pR 178), some (pI l1), none, none] [pR 178] LY nx (h, r, s) Q)) ∧
  (∀ (l1 : Int) (nx : Nat) (h r : PF) (s : Int → Int) (Q : PO → PY → Nat → PC → Prop), (Wp 144 50 [some (pR 178), some (pI l1), none, none] [pR 178] LY nx (h, r, s) Q ↔ Wp 144 53 [some (pR 178), some (pI l1), none, none] [pJ (h 178 10)] LY nx (h, r, s) Q)) ∧
  (∀ (l1 : Int) (x0 : Int) (nx : Nat) (h r : PF) (s : Int → Int) (Q : PO → PY → Nat → PC → Prop), (Wp 144 53 [some (pR 178), some (pI l1), none, none] [pJ x0] LY nx (h, r, s) Q ↔ Wp 144 54 [some (pR 178), some (pI l1), none, none] [pI (w32 x0)] LY nx (h, r, s) Q)) ∧
  (∀ (l1 : Int) (x0 : Int) (nx : Nat) (h r : PF) (s : Int → Int) (Q : PO → PY → Nat → PC → Prop), (Wp 144 54 [some (pR 178), some (pI l1), none, none] [pI x0] LY nx (h, r, s) Q ↔ Wp 144 56 [some (pR 178), some (pI l1), none, none] [pI 97, pI x0] LY nx (h, r, s) Q)) ∧
  (∀ (l1 : Int) (x0 : Int) (x1 : Int) (nx : Nat) (h r : PF) (s : Int → Int) (Q : PO → PY → Nat → PC → Prop), (Wp 144 56 [some (pR 178), some (pI l1), none, none] [pI x1, pI x0] LY nx (h, r, s) Q ↔ Wp 144 57 [some (pR 178), some (pI l1), none, none] [pI (w32 (x0 - x1))] LY nx (h, r, s) Q)) ∧
  (∀ (l1 : Int) (x0 : Int) (nx : Nat) (h r : PF) (s : Int → Int) (Q : PO → PY → Nat → PC → Prop), (Wp 144 57 [some (pR 178), some (pI l1), none, none] [pI x0] LY nx (h, r, s) Q ↔ Wp 144 61 [some (pR 178), some (pI l1), none, none] [pI x0] LY nx (h, r, s) Q)) ∧
  (∀ (l1 : Int) (nx : Nat) (h r : PF) (s : Int → Int) (Q : PO → PY → Nat → PC → Prop), (Wp 144 60 [some (pR 178), some (pI l1), none, none] [] LY nx (h, r, s) Q ↔ Wp 144 61 [some (pR 178), some (pI l1), none, none] [pI (-1)] LY nx (h, r, s) Q)) ∧
  (∀ (l1 : Int) (x0 : Int) (nx : Nat) (h r : PF) (s : Int → Int) (Q : PO → PY → Nat → PC → Prop), (Wp 144 61 [some (pR 178), some (pI l1), none, none] [pI x0] LY nx (h, r, s) Q ↔ Wp 144 62 [some (pR 178), some (pI l1), some (pI x0), none] [] LY nx (h, r, s) Q)) ∧
  (∀ (l1 : Int) (l2 : Int) (nx : Nat) (h r : PF) (s : Int → Int) (Q : PO → PY → Nat → PC → Prop), (Wp 144 62 [some (pR 178), some (pI l1), some (pI l2), none] [] LY nx (h, r, s) Q ↔ Wp 144 63 [some (pR 178), some (pI l1), some (pI l2), none] [pI l2] LY nx (h, r, s) Q)) ∧
  (∀ (l1 : Int) (l2 : Int) (x0 : Int) (nx : Nat) (h r : PF) (s : Int → Int) (Q : PO → PY → Nat → PC → Prop), (Wp 144 63 [some (pR 178), some (pI l1), some (pI l2), none] [pI x0] LY nx (h, r, s) Q ↔ Wp 144 64 [some (pR 178), some (pI l1), some (pI l2), none] [pI 0, pI x0] LY nx (h, r, s) Q)) ∧
  (∀ (l1 : Int) (l2 : Int) (x0 : Int) (x1 : Int) (nx : Nat) (h r : PF) (s : Int → Int) (Q : PO → PY → Nat → PC → Prop), (Wp 144 64 [some (pR 178), some (pI l1), some (pI l2), none] [pI x1, pI x0] LY nx (h, r, s) Q ↔ Wp 144 65 [some (pR 178), some (pI l1), some (pI l2), none] [pR 178, pI x1, pI x0] LY nx (h, r, s) Q)) ∧
  (∀ (l1 : Int) (l2 : Int) (x0 : Int) (x1 : Int) (nx : Nat) (h r : PF) (s : Int → Int) (Q : PO → PY → Nat → PC → Prop), WFr r → (Wp 144 65 [some (pR 178), some (pI l1), some (pI l2), none] [pR 178, pI x1, pI x0] LY nx (h, r, s) Q ↔ Wp 144 68 [some (pR 178), some (pI l1), some (pI l2), none] [pR 182, pI x1, pI x0] LY nx (h, r, s) Q)) ∧
  (∀ (l1 : Int) (l2 : Int) (x0 : Int) (x1 : Int) (nx : Nat) (h r : PF) (s : Int → Int) (Q : PO → PY → Nat → PC → Prop), (Wp 144 68 [some (pR 178), some (pI l1), some (pI l2), none] [pR 182, pI x1, pI x0] LY nx (h, r, s) Q ↔ Wp 144 69 [some (pR 178), some (pI l1), some (pI l2), none] [pI 0, pR 182, pI x1, pI x0] LY nx (h, r, s) Q)) ∧
  (∀ (l1 : Int) (l2 : Int) (x0 : Int) (x1 : Int) (x3 : Int) (nx : Nat) (h r : PF) (s : Int → Int) (Q : PO → PY → Nat → PC → Prop), 0 ≤ x3 → x3 < 164 → (Wp 144 69 [some (pR 178), some (pI l1), some (pI l2), none] [pI x3, pR 182, pI x1, pI x0] LY nx (h, r, s) Q ↔ Wp 144 70 [some (pR 178), some (pI l1), some (pI l2), none] [pI (h 182 x3), pI x1, pI x0] LY nx (h, r, s) Q)) ∧
  (∀ (l1 : Int) (l2 : Int) (x0 : Int) (x1 : Int) (x2 : Int) (nx : Nat) (h r : PF) (s : Int → Int) (Q : PO → PY → Nat → PC → Prop), (Wp 144 70 [some (pR 178), some (pI l1), some (pI l2), none] [pI x2, pI x1, pI x0] LY nx (h, r, s) Q ↔ Wp 144 71 [some (pR 178), some (pI l1), some (pI l2), none] [pI 1, pI x2, pI x1, pI x0] LY nx (h, r, s) Q)) ∧
  (∀ (l1 : Int) (l2 : Int) (x0 : Int) (x1 : Int) (x2 : Int) (x3 : Int) (nx : Nat) (h r : PF) (s : Int → Int) (Q : PO → PY → Nat → PC → Prop), (Wp 144 71 [some (pR 178), some (pI l1), some (pI l2), none] [pI x3, pI x2, pI x1, pI x0] LY nx (h, r, s) Q ↔ Wp 144 72 [some (pR 178), some (pI l1), some (pI l2), none] [pI (w32 (x2 - x3)), pI x1, pI x0] LY nx (h, r, s) Q)) ∧
  (∀ (l1 : Int) (l2 : Int) (x0 : Int) (x1 : Int) (x2 : Int) (nx : Nat) (h r : PF) (s : Int → Int) (Q : PO → PY → Nat → PC → Prop), (Wp 144 72 [some (pR 178), some (pI l1), some (pI l2), none] [pI x2, pI x1, pI x0] LY nx (h, r, s) Q ↔ Wp 127 0 [some (pI x0), some (pI x1), some (pI x2)] [] LY nx (h, r, s) (Kc 144 72 [some (pR 178), some (pI l1), some (pI l2), none] 75 [] Q))) ∧
  (∀ (l1 : Int) (l2 : Int) (x0 : Int) (nx : Nat) (h r : PF) (s : Int → Int) (Q : PO → PY → Nat → PC → Prop), (Wp 144 75 [some (pR 178), some (pI l1), some (pI l2), none] [pI x0] LY nx (h, r, s) Q ↔ (if x0 ≠ 0 then Wp 144 84 [some (pR 178), some (pI l1), some (pI l2), none] [] LY nx (h, r, s) Q else Wp 144 78 [some (pR 178), some (pI l1), some (pI l2), none] [] LY nx (h, r, s) Q))) ∧
  (∀ (l1 : Int) (l2 : Int) (nx : Nat) (h r : PF) (s : Int → Int) (Q : PO → PY → Nat → PC → Prop), (Wp 144 78 [some (pR 178), some (pI l1), some (pI l2), none] [] LY nx (h, r, s) Q ↔ Wp 144 79 [some (pR 178), some (pI l1), some (pI l2), none] [pR 178] LY nx (h, r, s) Q)) ∧
  (∀ (l1 : Int) (l2 : Int) (nx : Nat) (h r : PF) (s : Int → Int) (Q : PO → PY → Nat → PC → Prop), (Wp 144 79 [some (pR 178), some (pI l1), some (pI l2), none] [pR 178] LY nx (h, r, s) Q ↔ Wp 144 80 [some (pR 178), some (pI l1), some (pI l2), none] [pI 3, pR 178] LY nx (h, r, s) Q)) ∧
  (∀ (l1 : Int) (l2 : Int) (x1 : Int) (nx : Nat) (h r : PF) (s : Int → Int) (Q : PO → PY → Nat → PC → Prop), (Wp 144 80 [some (pR 178), some (pI l1), some (pI l2), none] [pI x1, pR 178] LY nx (h, r, s) Q ↔ Wp 134 0 [some (pR 178), some (pI x1)] [] LY nx (h, r, s) (Kc 144 80 [some (pR 178), some (pI l1), some (pI l2), none] 83 [] Q))) ∧
  (∀ (l1 : Int) (l2 : Int) (x0 : Int) (nx : Nat) (h r : PF) (s : Int → Int) (Q : PO → PY → Nat → PC → Prop), x0 = 0 ∨ x0 = 1 → (Wp 144 83 [some (pR 178), some (pI l1), some (pI l2), none] [pI x0] LY nx (h, r, s) Q ↔ Q (Sum.inl (some (pI x0))) LY nx (h, r, s))) ∧
  (∀ (l1 : Int) (l2 : Int) (nx : Nat) (h r : PF) (s : Int → Int) (Q : PO → PY → Nat → PC → Prop), (Wp 144 84 [some (pR 178), some (pI l1), some (pI l2), none] [] LY nx (h, r, s) Q ↔ Wp 144 85 [some (pR 178), some (pI l1), some (pI l2), none] [pR 178] LY nx (h, r, s) Q)) ∧
  (∀ (l1 : Int) (l2 : Int) (nx : Nat) (h r : PF) (s : Int → Int) (Q : PO → PY → Nat → PC → Prop), (Wp 144 85 [some (pR 178), some (pI l1), some (pI l2), none] [pR 178] LY nx (h, r, s) Q ↔ Wp 144 86 [some (pR 178), some (pI l1), some (pI l2), none] [pI l1, pR 178] LY nx (h, r, s) Q)) ∧
  (∀ (l1 : Int) (l2 : Int) (x1 : Int) (nx : Nat) (h r : PF) (s : Int → Int) (Q : PO → PY → Nat → PC → Prop), (Wp 144 86 [some (pR 178), some (pI l1), some (pI l2), none] [pI x1, pR 178] LY nx (h, r, s) Q ↔ Wp 142 0 [some (pR 178), some (pI x1)] [] LY nx (h, r, s) (Kc 144 86 [some (pR 178), some (pI l1), some (pI l2), none] 89 [] Q))) ∧
  (∀ (l1 : Int) (l2 : Int) (x0 : Int) (nx : Nat) (h r : PF) (s : Int → Int) (Q : PO → PY → Nat → PC → Prop), (Wp 144 89 [some (pR 178), some (pI l1), some (pI l2), none] [pI x0] LY nx (h, r, s) Q ↔ Wp 144 90 [some (pR 178), some (pI l1), some (pI l2), none] [pI 2, pI x0] LY nx (h, r, s) Q)) ∧
  (∀ (l1 : Int) (l2 : Int) (x0 : Int) (x1 : Int) (nx : Nat) (h r : PF) (s : Int → Int) (Q : PO → PY → Nat → PC → Prop), (Wp 144 90 [some (pR 178), some (pI l1), some (pI l2), none] [pI x1, pI x0] LY nx (h, r, s) Q ↔ Wp 144 91 [some (pR 178), some (pI l1), some (pI l2), none] [pI (w32 (x0 + x1))] LY nx (h, r, s) Q)) ∧
  (∀ (l1 : Int) (l2 : Int) (x0 : Int) (nx : Nat) (h r : PF) (s : Int → Int) (Q : PO → PY → Nat → PC → Prop), (Wp 144 91 [some (pR 178), some (pI l1), some (pI l2), none] [pI x0] LY nx (h, r, s) Q ↔ Wp 144 92 [some (pR 178), some (pI l1), some (pI l2), none] [pI l2, pI x0] LY nx (h, r, s) Q)) ∧
  (∀ (l1 : Int) (l2 : Int) (x0 : Int) (x1 : Int) (nx : Nat) (h r : PF) (s : Int → Int) (Q : PO → PY → Nat → PC → Prop), (Wp 144 92 [some (pR 178), some (pI l1), some (pI l2), none] [pI x1, pI x0] LY nx (h, r, s) Q ↔ Wp 144 93 [some (pR 178), some (pI l1), some (pI l2), none] [pI (w32 (x0 + x1))] LY nx (h, r, s) Q)) ∧
  (∀ (l1 : Int) (l2 : Int) (x0 : Int) (nx : Nat) (h r : PF) (s : Int → Int) (Q : PO → PY → Nat → PC → Prop), (Wp 144 93 [some (pR 178), some (pI l1), some (pI l2), none] [pI x0] LY nx (h, r, s) Q ↔ Wp 144 94 [some (pR 178), some (pI l1), some (pI l2), some (pI x0)] [] LY nx (h, r, s) Q)) ∧
  (∀ (l1 : Int) (l2 : Int) (l3 : Int) (nx : Nat) (h r : PF) (s : Int → Int) (Q : PO → PY → Nat → PC → Prop), (Wp 144 94 [some (pR 178), some (pI l1), some (pI l2), some (pI l3)] [] LY nx (h, r, s) Q ↔ Wp 144 95 [some (pR 178), some (pI l1), some (pI l2), some (pI l3)] [pR 178] LY nx (h, r, s) Q)) ∧
  (∀ (l1 : Int) (l2 : Int) (l3 : Int) (nx : Nat) (h r : PF) (s : Int → Int) (Q : PO → PY → Nat → PC → Prop), (Wp 144 95 [some (pR 178), some (pI l1), some (pI l2), some (pI l3)] [pR 178] LY nx (h, r, s) Q ↔ Wp 144 96 [some (pR 178), some (pI l1), some (pI l2), some (pI l3)] [pI 2, pR 178] LY nx (h, r, s) Q)) ∧
  (∀ (l1 : Int) (l2 : Int) (l3 : Int) (x1 : Int) (nx : Nat) (h r : PF) (s : Int → Int) (Q : PO → PY → Nat → PC → Prop), (Wp 144 96 [some (pR 178), some (pI l1), some (pI l2), some (pI l3)] [pI x1, pR 178] LY nx (h, r, s) Q ↔ Wp 144 97 [some (pR 178), some (pI l1), some (pI l2), some (pI l3)] [pR 178, pI x1, pR 178] LY nx (h, r, s) Q)) :=
  ⟨fun  nx h r s Q  => o_aload_n (by decide +kernel : pcode 144 0 = some (10, 0, 0, 0, 0)) rfl,
  fun  nx h r s Q  => o_ivV (s1 := []) (s2 := []) (o := 178) (by decide +kernel : pcode 144 1 = some (78, 141, 1, 1386, 157)) rfl (Nat.le_of_ble_eq_true rfl) (by decide) (by decide +kernel) rfl rfl rfl,
  fun x0 nx h r s Q  => o_if_eq (by decide +kernel : pcode 144 4 = some (41, 15, 0, 0, 11)),
  fun  nx h r s Q  => o_aload_n (by decide +kernel : pcode 144 7 = some (10, 0, 0, 0, 0)) rfl,
  fun  nx h r s Q  => o_iconst (by decide +kernel : pcode 144 8 = some (1, 0, 0, 0, -1)),
  fun x1 nx h r s Q  => o_ivV (s1 := [pI x1]) (s2 := []) (o := 178) (by decide +kernel : pcode 144 9 = some (78, 143, 2, 1390, 161)) rfl (Nat.le_of_ble_eq_true rfl) (by decide) (by decide +kernel) rfl rfl rfl,
  fun x0 nx h r s Q  => o_if_ne (by decide +kernel : pcode 144 12 = some (42, 17, 0, 0, 5)),
  fun  nx h r s Q  => o_iconst (by decide +kernel : pcode 144 15 = some (1, 0, 0, 0, 0)),
  fun x0 nx h r s Q hz => o_zret (by decide +kernel : pcode 144 16 = some (88, 0, 0, 0, 0)) hz,
  fun  nx h r s Q  => o_aload_n (by decide +kernel : pcode 144 17 = some (10, 0, 0, 0, 0)) rfl,
  fun  nx h r s Q  => o_getI (by decide +kernel : pcode 144 18 = some (55, 1230, 8, 13, 127)) (by decide) (by decide +kernel),
  fun x0 nx h r s Q  => o_istore_n (by decide +kernel : pcode 144 21 = some (12, 1, 0, 0, 0)) rfl,
  fun l1 nx h r s Q  => o_aload_n (by decide +kernel : pcode 144 22 = some (10, 0, 0, 0, 0)) rfl,
  fun l1 nx h r s Q  => o_getI (by decide +kernel : pcode 144 23 = some (55, 1225, 8, 8, 101)) (by decide) (by decide +kernel),
  fun l1 x0 nx h r s Q  => o_iconst (by decide +kernel : pcode 144 26 = some (1, 0, 0, 0, 1)),
  fun l1 x0 x1 nx h r s Q  => o_icmp_eq (by decide +kernel : pcode 144 27 = some (47, 36, 0, 0, 9)),
  fun l1 nx h r s Q  => o_aload_n (by decide +kernel : pcode 144 30 = some (10, 0, 0, 0, 0)) rfl,
  fun l1 nx h r s Q  => o_iconst (by decide +kernel : pcode 144 31 = some (1, 0, 0, 0, 1)),
  fun l1 x1 nx h r s Q  => o_ivV (s1 := [pI x1]) (s2 := []) (o := 178) (by decide +kernel : pcode 144 32 = some (78, 134, 2, 1351, 120)) rfl (Nat.le_of_ble_eq_true rfl) (by decide) (by decide +kernel) rfl rfl rfl,
  fun l1 x0 nx h r s Q hz => o_zret (by decide +kernel : pcode 144 35 = some (88, 0, 0, 0, 0)) hz,
  fun l1 nx h r s Q  => o_aload_n (by decide +kernel : pcode 144 36 = some (10, 0, 0, 0, 0)) rfl,
  fun l1 nx h r s Q  => o_getI (by decide +kernel : pcode 144 37 = some (55, 1224, 8, 7, 84)) (by decide) (by decide +kernel),
  fun l1 x0 nx h r s Q  => o_aload_n (by decide +kernel : pcode 144 40 = some (10, 0, 0, 0, 0)) rfl,
  fun l1 x0 nx h r s Q  => o_getI (by decide +kernel : pcode 144 41 = some (55, 1223, 8, 6, 91)) (by decide) (by decide +kernel),
  fun l1 x0 x1 nx h r s Q  => o_isub (by decide +kernel : pcode 144 44 = some (20, 0, 0, 0, 0)),
  fun l1 x0 nx h r s Q  => o_iconst (by decide +kernel : pcode 144 45 = some (1, 0, 0, 0, 1)),
  fun l1 x0 x1 nx h r s Q  => o_icmp_ne (by decide +kernel : pcode 144 46 = some (48, 60, 0, 0, 14)),
  fun l1 nx h r s Q  => o_aload_n (by decide +kernel : pcode 144 49 = some (10, 0, 0, 0, 0)) rfl,
  fun l1 nx h r s Q  => o_getJ (by decide +kernel : pcode 144 50 = some (56, 1227, 8, 10, 97)) (by decide) (by decide +kernel),
  fun l1 x0 nx h r s Q  => o_l2i (by decide +kernel : pcode 144 53 = some (36, 0, 0, 0, 0)),
  fun l1 x0 nx h r s Q  => o_bipush (by decide +kernel : pcode 144 54 = some (2, 0, 0, 0, 97)),
  fun l1 x0 x1 nx h r s Q  => o_isub (by decide +kernel : pcode 144 56 = some (20, 0, 0, 0, 0)),
  fun l1 x0 nx h r s Q  => o_goto (by decide +kernel : pcode 144 57 = some (53, 61, 0, 0, 4)),
  fun l1 nx h r s Q  => o_iconst (by decide +kernel : pcode 144 60 = some (1, 0, 0, 0, -1)),
  fun l1 x0 nx h r s Q  => o_istore_n (by decide +kernel : pcode 144 61 = some (12, 2, 0, 0, 0)) rfl,
  fun l1 l2 nx h r s Q  => o_iload_n (by decide +kernel : pcode 144 62 = some (6, 2, 0, 0, 0)) rfl,
  fun l1 l2 x0 nx h r s Q  => o_iconst (by decide +kernel : pcode 144 63 = some (1, 0, 0, 0, 0)),
  fun l1 l2 x0 x1 nx h r s Q  => o_aload_n (by decide +kernel : pcode 144 64 = some (10, 0, 0, 0, 0)) rfl,
  fun l1 l2 x0 x1 nx h r s Q hw => o_getR (h := (h, r, s)) (by decide +kernel : pcode 144 65 = some (57, 1232, 8, 15, 24)) (by decide) (by decide +kernel) (hw _ (List.mem_of_getElem? (i := 175) rfl)) (by decide),
  fun l1 l2 x0 x1 nx h r s Q  => o_iconst (by decide +kernel : pcode 144 68 = some (1, 0, 0, 0, 0)),
  fun l1 l2 x0 x1 x3 nx h r s Q hi hn => o_iald (h := (h, r, s)) (n := 164) (by decide +kernel : pcode 144 69 = some (63, 0, 0, 0, 0)) (by decide) (by decide +kernel) hi hn,
  fun l1 l2 x0 x1 x2 nx h r s Q  => o_iconst (by decide +kernel : pcode 144 70 = some (1, 0, 0, 0, 1)),
  fun l1 l2 x0 x1 x2 x3 nx h r s Q  => o_isub (by decide +kernel : pcode 144 71 = some (20, 0, 0, 0, 0)),
  fun l1 l2 x0 x1 x2 nx h r s Q  => o_ivS (s1 := [pI x2, pI x1, pI x0]) (s2 := []) (by decide +kernel : pcode 144 72 = some (77, 127, 3, 1325, 104)) rfl (Nat.le_of_ble_eq_true rfl) rfl rfl rfl,
  fun l1 l2 x0 nx h r s Q  => o_if_ne (by decide +kernel : pcode 144 75 = some (42, 84, 0, 0, 9)),
  fun l1 l2 nx h r s Q  => o_aload_n (by decide +kernel : pcode 144 78 = some (10, 0, 0, 0, 0)) rfl,
  fun l1 l2 nx h r s Q  => o_iconst (by decide +kernel : pcode 144 79 = some (1, 0, 0, 0, 3)),
  fun l1 l2 x1 nx h r s Q  => o_ivV (s1 := [pI x1]) (s2 := []) (o := 178) (by decide +kernel : pcode 144 80 = some (78, 134, 2, 1351, 120)) rfl (Nat.le_of_ble_eq_true rfl) (by decide) (by decide +kernel) rfl rfl rfl,
  fun l1 l2 x0 nx h r s Q hz => o_zret (by decide +kernel : pcode 144 83 = some (88, 0, 0, 0, 0)) hz,
  fun l1 l2 nx h r s Q  => o_aload_n (by decide +kernel : pcode 144 84 = some (10, 0, 0, 0, 0)) rfl,
  fun l1 l2 nx h r s Q  => o_iload_n (by decide +kernel : pcode 144 85 = some (6, 1, 0, 0, 0)) rfl,
  fun l1 l2 x1 nx h r s Q  => o_ivV (s1 := [pI x1]) (s2 := []) (o := 178) (by decide +kernel : pcode 144 86 = some (78, 142, 2, 1394, 154)) rfl (Nat.le_of_ble_eq_true rfl) (by decide) (by decide +kernel) rfl rfl rfl,
  fun l1 l2 x0 nx h r s Q  => o_iconst (by decide +kernel : pcode 144 89 = some (1, 0, 0, 0, 2)),
  fun l1 l2 x0 x1 nx h r s Q  => o_iadd (by decide +kernel : pcode 144 90 = some (19, 0, 0, 0, 0)),
  fun l1 l2 x0 nx h r s Q  => o_iload_n (by decide +kernel : pcode 144 91 = some (6, 2, 0, 0, 0)) rfl,
  fun l1 l2 x0 x1 nx h r s Q  => o_iadd (by decide +kernel : pcode 144 92 = some (19, 0, 0, 0, 0)),
  fun l1 l2 x0 nx h r s Q  => o_istore_n (by decide +kernel : pcode 144 93 = some (12, 3, 0, 0, 0)) rfl,
  fun l1 l2 l3 nx h r s Q  => o_aload_n (by decide +kernel : pcode 144 94 = some (10, 0, 0, 0, 0)) rfl,
  fun l1 l2 l3 nx h r s Q  => o_iconst (by decide +kernel : pcode 144 95 = some (1, 0, 0, 0, 2)),
  fun l1 l2 l3 x1 nx h r s Q  => o_aload_n (by decide +kernel : pcode 144 96 = some (10, 0, 0, 0, 0)) rfl⟩
set_option maxHeartbeats 4000000 in
set_option maxRecDepth 10000 in
theorem st_X8_goLine_1 :
  (∀ (l1 : Int) (l2 : Int) (l3 : Int) (x1 : Int) (nx : Nat) (h r : PF) (s : Int → Int) (Q : PO → PY → Nat → PC → Prop), WFr r → (Wp 144 97 [some (pR 178), some (pI l1), some (pI l2), some (pI l3)] [pR 178, pI x1, pR 178] LY nx (h, r, s) Q ↔ Wp 144 100 [some (pR 178), some (pI l1), some (pI l2), some (pI l3)] [pR 182, pI x1, pR 178] LY nx (h, r, s) Q)) ∧
  (∀ (l1 : Int) (l2 : Int) (l3 : Int) (x1 : Int) (nx : Nat) (h r : PF) (s : Int → Int) (Q : PO → PY → Nat → PC → Prop), (Wp 144 100 [some (pR 178), some (pI l1), some (pI l2), some (pI l3)] [pR 182, pI x1, pR 178] LY nx (h, r, s) Q ↔ Wp 144 101 [some (pR 178), some (pI l1), some (pI l2), some (pI l3)] [pI l3, pR 182, pI x1, pR 178] LY nx (h, r, s) Q)) ∧
  (∀ (l1 : Int) (l2 : Int) (l3 : Int) (x1 : Int) (x3 : Int) (nx : Nat) (h r : PF) (s : Int → Int) (Q : PO → PY → Nat → PC → Prop), 0 ≤ x3 → x3 < 164 → (Wp 144 101 [some (pR 178), some (pI l1), some (pI l2), some (pI l3)] [pI x3, pR 182, pI x1, pR 178] LY nx (h, r, s) Q ↔ Wp 144 102 [some (pR 178), some (pI l1), some (pI l2), some (pI l3)] [pI (h 182 x3), pI x1, pR 178] LY nx (h, r, s) Q)) ∧
  (∀ (l1 : Int) (l2 : Int) (l3 : Int) (x1 : Int) (x2 : Int) (nx : Nat) (h r : PF) (s : Int → Int) (Q : PO → PY → Nat → PC → Prop), (Wp 144 102 [some (pR 178), some (pI l1), some (pI l2), some (pI l3)] [pI x2, pI x1, pR 178] LY nx (h, r, s) Q ↔ (if x2 ≠ 0 then Wp 144 109 [some (pR 178), some (pI l1), some (pI l2), some (pI l3)] [pI x1, pR 178] LY nx (h, r, s) Q else Wp 144 105 [some (pR 178), some (pI l1), some (pI l2), some (pI l3)] [pI x1, pR 178] LY nx (h, r, s) Q))) ∧
  (∀ (l1 : Int) (l2 : Int) (l3 : Int) (x1 : Int) (nx : Nat) (h r : PF) (s : Int → Int) (Q : PO → PY → Nat → PC → Prop), (Wp 144 105 [some (pR 178), some (pI l1), some (pI l2), some (pI l3)] [pI x1, pR 178] LY nx (h, r, s) Q ↔ Wp 144 106 [some (pR 178), some (pI l1), some (pI l2), some (pI l3)] [pI 1, pI x1, pR 178] LY nx (h, r, s) Q)) ∧
  (∀ (l1 : Int) (l2 : Int) (l3 : Int) (x1 : Int) (x2 : Int) (nx : Nat) (h r : PF) (s : Int → Int) (Q : PO → PY → Nat → PC → Prop), (Wp 144 106 [some (pR 178), some (pI l1), some (pI l2), some (pI l3)] [pI x2, pI x1, pR 178] LY nx (h, r, s) Q ↔ Wp 144 110 [some (pR 178), some (pI l1), some (pI l2), some (pI l3)] [pI x2, pI x1, pR 178] LY nx (h, r, s) Q)) ∧
  (∀ (l1 : Int) (l2 : Int) (l3 : Int) (x1 : Int) (nx : Nat) (h r : PF) (s : Int → Int) (Q : PO → PY → Nat → PC → Prop), (Wp 144 109 [some (pR 178), some (pI l1), some (pI l2), some (pI l3)] [pI x1, pR 178] LY nx (h, r, s) Q ↔ Wp 144 110 [some (pR 178), some (pI l1), some (pI l2), some (pI l3)] [pI 0, pI x1, pR 178] LY nx (h, r, s) Q)) ∧
  (∀ (l1 : Int) (l2 : Int) (l3 : Int) (x1 : Int) (x2 : Int) (nx : Nat) (h r : PF) (s : Int → Int) (Q : PO → PY → Nat → PC → Prop), (Wp 144 110 [some (pR 178), some (pI l1), some (pI l2), some (pI l3)] [pI x2, pI x1, pR 178] LY nx (h, r, s) Q ↔ Wp 135 0 [some (pR 178), some (pI x1), some (pI x2)] [] LY nx (h, r, s) (Kc 144 110 [some (pR 178), some (pI l1), some (pI l2), some (pI l3)] 113 [] Q))) ∧
  (∀ (l1 : Int) (l2 : Int) (l3 : Int) (x0 : Int) (nx : Nat) (h r : PF) (s : Int → Int) (Q : PO → PY → Nat → PC → Prop), (Wp 144 113 [some (pR 178), some (pI l1), some (pI l2), some (pI l3)] [pI x0] LY nx (h, r, s) Q ↔ (if x0 = 0 then Wp 144 124 [some (pR 178), some (pI l1), some (pI l2), some (pI l3)] [] LY nx (h, r, s) Q else Wp 144 116 [some (pR 178), some (pI l1), some (pI l2), some (pI l3)] [] LY nx (h, r, s) Q))) ∧
  (∀ (l1 : Int) (l2 : Int) (l3 : Int) (nx : Nat) (h r : PF) (s : Int → Int) (Q : PO → PY → Nat → PC → Prop), (Wp 144 116 [some (pR 178), some (pI l1), some (pI l2), some (pI l3)] [] LY nx (h, r, s) Q ↔ Wp 144 117 [some (pR 178), some (pI l1), some (pI l2), some (pI l3)] [pR 178] LY nx (h, r, s) Q)) ∧
  (∀ (l1 : Int) (l2 : Int) (l3 : Int) (nx : Nat) (h r : PF) (s : Int → Int) (Q : PO → PY → Nat → PC → Prop), (Wp 144 117 [some (pR 178), some (pI l1), some (pI l2), some (pI l3)] [pR 178] LY nx (h, r, s) Q ↔ Wp 144 118 [some (pR 178), some (pI l1), some (pI l2), some (pI l3)] [pI (-1), pR 178] LY nx (h, r, s) Q)) ∧
  (∀ (l1 : Int) (l2 : Int) (l3 : Int) (x1 : Int) (nx : Nat) (h r : PF) (s : Int → Int) (Q : PO → PY → Nat → PC → Prop), (Wp 144 118 [some (pR 178), some (pI l1), some (pI l2), some (pI l3)] [pI x1, pR 178] LY nx (h, r, s) Q ↔ Wp 143 0 [some (pR 178), some (pI x1), none] [] LY nx (h, r, s) (Kc 144 118 [some (pR 178), some (pI l1), some (pI l2), some (pI l3)] 121 [] Q))) ∧
  (∀ (l1 : Int) (l2 : Int) (l3 : Int) (x0 : Int) (nx : Nat) (h r : PF) (s : Int → Int) (Q : PO → PY → Nat → PC → Prop), (Wp 144 121 [some (pR 178), some (pI l1), some (pI l2), some (pI l3)] [pI x0] LY nx (h, r, s) Q ↔ (if x0 ≠ 0 then Wp 144 126 [some (pR 178), some (pI l1), some (pI l2), some (pI l3)] [] LY nx (h, r, s) Q else Wp 144 124 [some (pR 178), some (pI l1), some (pI l2), some (pI l3)] [] LY nx (h, r, s) Q))) ∧
  (∀ (l1 : Int) (l2 : Int) (l3 : Int) (nx : Nat) (h r : PF) (s : Int → Int) (Q : PO → PY → Nat → PC → Prop), (Wp 144 124 [some (pR 178), some (pI l1), some (pI l2), some (pI l3)] [] LY nx (h, r, s) Q ↔ Wp 144 125 [some (pR 178), some (pI l1), some (pI l2), some (pI l3)] [pI 0] LY nx (h, r, s) Q)) ∧
  (∀ (l1 : Int) (l2 : Int) (l3 : Int) (x0 : Int) (nx : Nat) (h r : PF) (s : Int → Int) (Q : PO → PY → Nat → PC → Prop), x0 = 0 ∨ x0 = 1 → (Wp 144 125 [some (pR 178), some (pI l1), some (pI l2), some (pI l3)] [pI x0] LY nx (h, r, s) Q ↔ Q (Sum.inl (some (pI x0))) LY nx (h, r, s))) ∧
  (∀ (l1 : Int) (l2 : Int) (l3 : Int) (nx : Nat) (h r : PF) (s : Int → Int) (Q : PO → PY → Nat → PC → Prop), (Wp 144 126 [some (pR 178), some (pI l1), some (pI l2), some (pI l3)] [] LY nx (h, r, s) Q ↔ Wp 144 127 [some (pR 178), some (pI l1), some (pI l2), some (pI l3)] [pR 178] LY nx (h, r, s) Q)) ∧
  (∀ (l1 : Int) (l2 : Int) (l3 : Int) (nx : Nat) (h r : PF) (s : Int → Int) (Q : PO → PY → Nat → PC → Prop), WFr r → (Wp 144 127 [some (pR 178), some (pI l1), some (pI l2), some (pI l3)] [pR 178] LY nx (h, r, s) Q ↔ Wp 144 130 [some (pR 178), some (pI l1), some (pI l2), some (pI l3)] [pR 182] LY nx (h, r, s) Q)) ∧
  (∀ (l1 : Int) (l2 : Int) (l3 : Int) (nx : Nat) (h r : PF) (s : Int → Int) (Q : PO → PY → Nat → PC → Prop), (Wp 144 130 [some (pR 178), some (pI l1), some (pI l2), some (pI l3)] [pR 182] LY nx (h, r, s) Q ↔ Wp 144 131 [some (pR 178), some (pI l1), some (pI l2), some (pI l3)] [pI l3, pR 182] LY nx (h, r, s) Q)) ∧
  (∀ (l1 : Int) (l2 : Int) (l3 : Int) (x1 : Int) (nx : Nat) (h r : PF) (s : Int → Int) (Q : PO → PY → Nat → PC → Prop), (Wp 144 131 [some (pR 178), some (pI l1), some (pI l2), some (pI l3)] [pI x1, pR 182] LY nx (h, r, s) Q ↔ Wp 144 132 [some (pR 178), some (pI l1), some (pI l2), some (pI l3)] [pR 178, pI x1, pR 182] LY nx (h, r, s) Q)) ∧
  (∀ (l1 : Int) (l2 : Int) (l3 : Int) (x1 : Int) (nx : Nat) (h r : PF) (s : Int → Int) (Q : PO → PY → Nat → PC → Prop), (Wp 144 132 [some (pR 178), some (pI l1), some (pI l2), some (pI l3)] [pR 178, pI x1, pR 182] LY nx (h, r, s) Q ↔ Wp 144 135 [some (pR 178), some (pI l1), some (pI l2), some (pI l3)] [pI (h 178 13), pI x1, pR 182] LY nx (h, r, s) Q)) ∧
  (∀ (l1 : Int) (l2 : Int) (l3 : Int) (x1 : Int) (x2 : Int) (nx : Nat) (h r : PF) (s : Int → Int) (Q : PO → PY → Nat → PC → Prop), (Wp 144 135 [some (pR 178), some (pI l1), some (pI l2), some (pI l3)] [pI x2, pI x1, pR 182] LY nx (h, r, s) Q ↔ Wp 144 136 [some (pR 178), some (pI l1), some (pI l2), some (pI l3)] [pI 1, pI x2, pI x1, pR 182] LY nx (h, r, s) Q)) ∧
  (∀ (l1 : Int) (l2 : Int) (l3 : Int) (x1 : Int) (x2 : Int) (x3 : Int) (nx : Nat) (h r : PF) (s : Int → Int) (Q : PO → PY → Nat → PC → Prop), (Wp 144 136 [some (pR 178), some (pI l1), some (pI l2), some (pI l3)] [pI x3, pI x2, pI x1, pR 182] LY nx (h, r, s) Q ↔ Wp 144 137 [some (pR 178), some (pI l1), some (pI l2), some (pI l3)] [pI (w32 (x2 + x3)), pI x1, pR 182] LY nx (h, r, s) Q)) ∧
  (∀ (l1 : Int) (l2 : Int) (l3 : Int) (x1 : Int) (x2 : Int) (nx : Nat) (h r : PF) (s : Int → Int) (Q : PO → PY → Nat → PC → Prop), 0 ≤ x1 → x1 < 164 → (Wp 144 137 [some (pR 178), some (pI l1), some (pI l2), some (pI l3)] [pI x2, pI x1, pR 182] LY nx (h, r, s) Q ↔ Wp 144 138 [some (pR 178), some (pI l1), some (pI l2), some (pI l3)] [] LY nx (fup h 182 x1 x2, r, s) Q)) ∧
  (∀ (l1 : Int) (l2 : Int) (l3 : Int) (nx : Nat) (h r : PF) (s : Int → Int) (Q : PO → PY → Nat → PC → Prop), (Wp 144 138 [some (pR 178), some (pI l1), some (pI l2), some (pI l3)] [] LY nx (h, r, s) Q ↔ Wp 144 139 [some (pR 178), some (pI l1), some (pI l2), some (pI l3)] [pI 1] LY nx (h, r, s) Q)) ∧
  (∀ (l1 : Int) (l2 : Int) (l3 : Int) (x0 : Int) (nx : Nat) (h r : PF) (s : Int → Int) (Q : PO → PY → Nat → PC → Prop), x0 = 0 ∨ x0 = 1 → (Wp 144 139 [some (pR 178), some (pI l1), some (pI l2), some (pI l3)] [pI x0] LY nx (h, r, s) Q ↔ Q (Sum.inl (some (pI x0))) LY nx (h, r, s))) :=
  ⟨fun l1 l2 l3 x1 nx h r s Q hw => o_getR (h := (h, r, s)) (by decide +kernel : pcode 144 97 = some (57, 1232, 8, 15, 24)) (by decide) (by decide +kernel) (hw _ (List.mem_of_getElem? (i := 175) rfl)) (by decide),
  fun l1 l2 l3 x1 nx h r s Q  => o_iload_n (by decide +kernel : pcode 144 100 = some (6, 3, 0, 0, 0)) rfl,
  fun l1 l2 l3 x1 x3 nx h r s Q hi hn => o_iald (h := (h, r, s)) (n := 164) (by decide +kernel : pcode 144 101 = some (63, 0, 0, 0, 0)) (by decide) (by decide +kernel) hi hn,
  fun l1 l2 l3 x1 x2 nx h r s Q  => o_if_ne (by decide +kernel : pcode 144 102 = some (42, 109, 0, 0, 7)),
  fun l1 l2 l3 x1 nx h r s Q  => o_iconst (by decide +kernel : pcode 144 105 = some (1, 0, 0, 0, 1)),
  fun l1 l2 l3 x1 x2 nx h r s Q  => o_goto (by decide +kernel : pcode 144 106 = some (53, 110, 0, 0, 4)),
  fun l1 l2 l3 x1 nx h r s Q  => o_iconst (by decide +kernel : pcode 144 109 = some (1, 0, 0, 0, 0)),
  fun l1 l2 l3 x1 x2 nx h r s Q  => o_ivV (s1 := [pI x2, pI x1]) (s2 := []) (o := 178) (by decide +kernel : pcode 144 110 = some (78, 135, 3, 1347, 134)) rfl (Nat.le_of_ble_eq_true rfl) (by decide) (by decide +kernel) rfl rfl rfl,
  fun l1 l2 l3 x0 nx h r s Q  => o_if_eq (by decide +kernel : pcode 144 113 = some (41, 124, 0, 0, 11)),
  fun l1 l2 l3 nx h r s Q  => o_aload_n (by decide +kernel : pcode 144 116 = some (10, 0, 0, 0, 0)) rfl,
  fun l1 l2 l3 nx h r s Q  => o_iconst (by decide +kernel : pcode 144 117 = some (1, 0, 0, 0, -1)),
  fun l1 l2 l3 x1 nx h r s Q  => o_ivV (s1 := [pI x1]) (s2 := []) (o := 178) (by decide +kernel : pcode 144 118 = some (78, 143, 2, 1390, 161)) rfl (Nat.le_of_ble_eq_true rfl) (by decide) (by decide +kernel) rfl rfl rfl,
  fun l1 l2 l3 x0 nx h r s Q  => o_if_ne (by decide +kernel : pcode 144 121 = some (42, 126, 0, 0, 5)),
  fun l1 l2 l3 nx h r s Q  => o_iconst (by decide +kernel : pcode 144 124 = some (1, 0, 0, 0, 0)),
  fun l1 l2 l3 x0 nx h r s Q hz => o_zret (by decide +kernel : pcode 144 125 = some (88, 0, 0, 0, 0)) hz,
  fun l1 l2 l3 nx h r s Q  => o_aload_n (by decide +kernel : pcode 144 126 = some (10, 0, 0, 0, 0)) rfl,
  fun l1 l2 l3 nx h r s Q hw => o_getR (h := (h, r, s)) (by decide +kernel : pcode 144 127 = some (57, 1232, 8, 15, 24)) (by decide) (by decide +kernel) (hw _ (List.mem_of_getElem? (i := 175) rfl)) (by decide),
  fun l1 l2 l3 nx h r s Q  => o_iload_n (by decide +kernel : pcode 144 130 = some (6, 3, 0, 0, 0)) rfl,
  fun l1 l2 l3 x1 nx h r s Q  => o_aload_n (by decide +kernel : pcode 144 131 = some (10, 0, 0, 0, 0)) rfl,
  fun l1 l2 l3 x1 nx h r s Q  => o_getI (by decide +kernel : pcode 144 132 = some (55, 1230, 8, 13, 127)) (by decide) (by decide +kernel),
  fun l1 l2 l3 x1 x2 nx h r s Q  => o_iconst (by decide +kernel : pcode 144 135 = some (1, 0, 0, 0, 1)),
  fun l1 l2 l3 x1 x2 x3 nx h r s Q  => o_iadd (by decide +kernel : pcode 144 136 = some (19, 0, 0, 0, 0)),
  fun l1 l2 l3 x1 x2 nx h r s Q hi hn => o_iast (h := (h, r, s)) (n := 164) (by decide +kernel : pcode 144 137 = some (64, 0, 0, 0, 0)) (by decide) (by decide +kernel) hi hn,
  fun l1 l2 l3 nx h r s Q  => o_iconst (by decide +kernel : pcode 144 138 = some (1, 0, 0, 0, 1)),
  fun l1 l2 l3 x0 nx h r s Q hz => o_zret (by decide +kernel : pcode 144 139 = some (88, 0, 0, 0, 0)) hz⟩
set_option maxHeartbeats 4000000 in
set_option maxRecDepth 10000 in
theorem st_X8_acceptLine :
  (∀  (nx : Nat) (h r : PF) (s : Int → Int) (Q : PO → PY → Nat → PC → Prop), (Wp 145 0 [some (pR 178)] [] LY nx (h, r, s) Q ↔ Wp 145 1 [some (pR 178)] [pR 178] LY nx (h, r, s) Q)) ∧
  (∀  (nx : Nat) (h r : PF) (s : Int → Int) (Q : PO → PY → Nat → PC → Prop), (Wp 145 1 [some (pR 178)] [pR 178] LY nx (h, r, s) Q ↔ Wp 141 0 [some (pR 178), none] [] LY nx (h, r, s) (Kc 145 1 [some (pR 178)] 4 [] Q))) ∧
  (∀ (x0 : Int) (nx : Nat) (h r : PF) (s : Int → Int) (Q : PO → PY → Nat → PC → Prop), (Wp 145 4 [some (pR 178)] [pI x0] LY nx (h, r, s) Q ↔ (if x0 = 0 then Wp 145 15 [some (pR 178)] [] LY nx (h, r, s) Q else Wp 145 7 [some (pR 178)] [] LY nx (h, r, s) Q))) ∧
  (∀  (nx : Nat) (h r : PF) (s : Int → Int) (Q : PO → PY → Nat → PC → Prop), (Wp 145 7 [some (pR 178)] [] LY nx (h, r, s) Q ↔ Wp 145 8 [some (pR 178)] [pR 178] LY nx (h, r, s) Q)) ∧
  (∀  (nx : Nat) (h r : PF) (s : Int → Int) (Q : PO → PY → Nat → PC → Prop), (Wp 145 8 [some (pR 178)] [pR 178] LY nx (h, r, s) Q ↔ Wp 145 9 [some (pR 178)] [pI 0, pR 178] LY nx (h, r, s) Q)) ∧
  (∀ (x1 : Int) (nx : Nat) (h r : PF) (s : Int → Int) (Q : PO → PY → Nat → PC → Prop), (Wp 145 9 [some (pR 178)] [pI x1, pR 178] LY nx (h, r, s) Q ↔ Wp 143 0 [some (pR 178), some (pI x1), none] [] LY nx (h, r, s) (Kc 145 9 [some (pR 178)] 12 [] Q))) ∧
  (∀ (x0 : Int) (nx : Nat) (h r : PF) (s : Int → Int) (Q : PO → PY → Nat → PC → Prop), (Wp 145 12 [some (pR 178)] [pI x0] LY nx (h, r, s) Q ↔ (if x0 ≠ 0 then Wp 145 17 [some (pR 178)] [] LY nx (h, r, s) Q else Wp 145 15 [some (pR 178)] [] LY nx (h, r, s) Q))) ∧
  (∀  (nx : Nat) (h r : PF) (s : Int → Int) (Q : PO → PY → Nat → PC → Prop), (Wp 145 15 [some (pR 178)] [] LY nx (h, r, s) Q ↔ Wp 145 16 [some (pR 178)] [pI 0] LY nx (h, r, s) Q)) ∧
  (∀ (x0 : Int) (nx : Nat) (h r : PF) (s : Int → Int) (Q : PO → PY → Nat → PC → Prop), x0 = 0 ∨ x0 = 1 → (Wp 145 16 [some (pR 178)] [pI x0] LY nx (h, r, s) Q ↔ Q (Sum.inl (some (pI x0))) LY nx (h, r, s))) ∧
  (∀  (nx : Nat) (h r : PF) (s : Int → Int) (Q : PO → PY → Nat → PC → Prop), (Wp 145 17 [some (pR 178)] [] LY nx (h, r, s) Q ↔ Wp 145 18 [some (pR 178)] [pR 178] LY nx (h, r, s) Q)) ∧
  (∀  (nx : Nat) (h r : PF) (s : Int → Int) (Q : PO → PY → Nat → PC → Prop), WFr r → (Wp 145 18 [some (pR 178)] [pR 178] LY nx (h, r, s) Q ↔ Wp 145 21 [some (pR 178)] [pR 182] LY nx (h, r, s) Q)) ∧
  (∀  (nx : Nat) (h r : PF) (s : Int → Int) (Q : PO → PY → Nat → PC → Prop), (Wp 145 21 [some (pR 178)] [pR 182] LY nx (h, r, s) Q ↔ Wp 145 22 [some (pR 178)] [pR 178, pR 182] LY nx (h, r, s) Q)) ∧
  (∀  (nx : Nat) (h r : PF) (s : Int → Int) (Q : PO → PY → Nat → PC → Prop), (Wp 145 22 [some (pR 178)] [pR 178, pR 182] LY nx (h, r, s) Q ↔ Wp 145 23 [some (pR 178)] [pR 178, pR 178, pR 182] LY nx (h, r, s) Q)) ∧
  (∀  (nx : Nat) (h r : PF) (s : Int → Int) (Q : PO → PY → Nat → PC → Prop), (Wp 145 23 [some (pR 178)] [pR 178, pR 178, pR 182] LY nx (h, r, s) Q ↔ Wp 145 26 [some (pR 178)] [pI (h 178 13), pR 178, pR 182] LY nx (h, r, s) Q)) ∧
  (∀ (x2 : Int) (nx : Nat) (h r : PF) (s : Int → Int) (Q : PO → PY → Nat → PC → Prop), (Wp 145 26 [some (pR 178)] [pI x2, pR 178, pR 182] LY nx (h, r, s) Q ↔ Wp 142 0 [some (pR 178), some (pI x2)] [] LY nx (h, r, s) (Kc 145 26 [some (pR 178)] 29 [pR 182] Q))) ∧
  (∀ (x1 : Int) (nx : Nat) (h r : PF) (s : Int → Int) (Q : PO → PY → Nat → PC → Prop), (Wp 145 29 [some (pR 178)] [pI x1, pR 182] LY nx (h, r, s) Q ↔ Wp 145 30 [some (pR 178)] [pI 0, pI x1, pR 182] LY nx (h, r, s) Q)) ∧
  (∀ (x1 : Int) (x2 : Int) (nx : Nat) (h r : PF) (s : Int → Int) (Q : PO → PY → Nat → PC → Prop), (Wp 145 30 [some (pR 178)] [pI x2, pI x1, pR 182] LY nx (h, r, s) Q ↔ Wp 145 31 [some (pR 178)] [pI (w32 (x1 + x2)), pR 182] LY nx (h, r, s) Q)) ∧
  (∀ (x1 : Int) (nx : Nat) (h r : PF) (s : Int → Int) (Q : PO → PY → Nat → PC → Prop), (Wp 145 31 [some (pR 178)] [pI x1, pR 182] LY nx (h, r, s) Q ↔ Wp 145 32 [some (pR 178)] [pI 1, pI x1, pR 182] LY nx (h, r, s) Q)) ∧
  (∀ (x1 : Int) (x2 : Int) (nx : Nat) (h r : PF) (s : Int → Int) (Q : PO → PY → Nat → PC → Prop), 0 ≤ x1 → x1 < 164 → (Wp 145 32 [some (pR 178)] [pI x2, pI x1, pR 182] LY nx (h, r, s) Q ↔ Wp 145 33 [some (pR 178)] [] LY nx (fup h 182 x1 x2, r, s) Q)) ∧
  (∀  (nx : Nat) (h r : PF) (s : Int → Int) (Q : PO → PY → Nat → PC → Prop), (Wp 145 33 [some (pR 178)] [] LY nx (h, r, s) Q ↔ Wp 145 34 [some (pR 178)] [pI 1] LY nx (h, r, s) Q)) ∧
  (∀ (x0 : Int) (nx : Nat) (h r : PF) (s : Int → Int) (Q : PO → PY → Nat → PC → Prop), x0 = 0 ∨ x0 = 1 → (Wp 145 34 [some (pR 178)] [pI x0] LY nx (h, r, s) Q ↔ Q (Sum.inl (some (pI x0))) LY nx (h, r, s))) :=
  ⟨fun  nx h r s Q  => o_aload_n (by decide +kernel : pcode 145 0 = some (10, 0, 0, 0, 0)) rfl,
  fun  nx h r s Q  => o_ivV (s1 := []) (s2 := []) (o := 178) (by decide +kernel : pcode 145 1 = some (78, 141, 1, 1386, 157)) rfl (Nat.le_of_ble_eq_true rfl) (by decide) (by decide +kernel) rfl rfl rfl,
  fun x0 nx h r s Q  => o_if_eq (by decide +kernel : pcode 145 4 = some (41, 15, 0, 0, 11)),
  fun  nx h r s Q  => o_aload_n (by decide +kernel : pcode 145 7 = some (10, 0, 0, 0, 0)) rfl,
  fun  nx h r s Q  => o_iconst (by decide +kernel : pcode 145 8 = some (1, 0, 0, 0, 0)),
  fun x1 nx h r s Q  => o_ivV (s1 := [pI x1]) (s2 := []) (o := 178) (by decide +kernel : pcode 145 9 = some (78, 143, 2, 1390, 161)) rfl (Nat.le_of_ble_eq_true rfl) (by decide) (by decide +kernel) rfl rfl rfl,
  fun x0 nx h r s Q  => o_if_ne (by decide +kernel : pcode 145 12 = some (42, 17, 0, 0, 5)),
  fun  nx h r s Q  => o_iconst (by decide +kernel : pcode 145 15 = some (1, 0, 0, 0, 0)),
  fun x0 nx h r s Q hz => o_zret (by decide +kernel : pcode 145 16 = some (88, 0, 0, 0, 0)) hz,
  fun  nx h r s Q  => o_aload_n (by decide +kernel : pcode 145 17 = some (10, 0, 0, 0, 0)) rfl,
  fun  nx h r s Q hw => o_getR (h := (h, r, s)) (by decide +kernel : pcode 145 18 = some (57, 1232, 8, 15, 24)) (by decide) (by decide +kernel) (hw _ (List.mem_of_getElem? (i := 175) rfl)) (by decide),
  fun  nx h r s Q  => o_aload_n (by decide +kernel : pcode 145 21 = some (10, 0, 0, 0, 0)) rfl,
  fun  nx h r s Q  => o_aload_n (by decide +kernel : pcode 145 22 = some (10, 0, 0, 0, 0)) rfl,
  fun  nx h r s Q  => o_getI (by decide +kernel : pcode 145 23 = some (55, 1230, 8, 13, 127)) (by decide) (by decide +kernel),
  fun x2 nx h r s Q  => o_ivV (s1 := [pI x2]) (s2 := [pR 182]) (o := 178) (by decide +kernel : pcode 145 26 = some (78, 142, 2, 1394, 154)) rfl (Nat.le_of_ble_eq_true rfl) (by decide) (by decide +kernel) rfl rfl rfl,
  fun x1 nx h r s Q  => o_iconst (by decide +kernel : pcode 145 29 = some (1, 0, 0, 0, 0)),
  fun x1 x2 nx h r s Q  => o_iadd (by decide +kernel : pcode 145 30 = some (19, 0, 0, 0, 0)),
  fun x1 nx h r s Q  => o_iconst (by decide +kernel : pcode 145 31 = some (1, 0, 0, 0, 1)),
  fun x1 x2 nx h r s Q hi hn => o_iast (h := (h, r, s)) (n := 164) (by decide +kernel : pcode 145 32 = some (64, 0, 0, 0, 0)) (by decide) (by decide +kernel) hi hn,
  fun  nx h r s Q  => o_iconst (by decide +kernel : pcode 145 33 = some (1, 0, 0, 0, 1)),
  fun x0 nx h r s Q hz => o_zret (by decide +kernel : pcode 145 34 = some (88, 0, 0, 0, 0)) hz⟩
set_option maxHeartbeats 4000000 in
set_option maxRecDepth 10000 in
theorem st_X8_tireLine :
  (∀  (nx : Nat) (h r : PF) (s : Int → Int) (Q : PO → PY → Nat → PC → Prop), (Wp 146 0 [some (pR 178)] [] LY nx (h, r, s) Q ↔ Wp 146 1 [some (pR 178)] [pR 178] LY nx (h, r, s) Q)) ∧
  (∀  (nx : Nat) (h r : PF) (s : Int → Int) (Q : PO → PY → Nat → PC → Prop), (Wp 146 1 [some (pR 178)] [pR 178] LY nx (h, r, s) Q ↔ Wp 141 0 [some (pR 178), none] [] LY nx (h, r, s) (Kc 146 1 [some (pR 178)] 4 [] Q))) ∧
  (∀ (x0 : Int) (nx : Nat) (h r : PF) (s : Int → Int) (Q : PO → PY → Nat → PC → Prop), (Wp 146 4 [some (pR 178)] [pI x0] LY nx (h, r, s) Q ↔ (if x0 = 0 then Wp 146 15 [some (pR 178)] [] LY nx (h, r, s) Q else Wp 146 7 [some (pR 178)] [] LY nx (h, r, s) Q))) ∧
  (∀  (nx : Nat) (h r : PF) (s : Int → Int) (Q : PO → PY → Nat → PC → Prop), (Wp 146 7 [some (pR 178)] [] LY nx (h, r, s) Q ↔ Wp 146 8 [some (pR 178)] [pR 178] LY nx (h, r, s) Q)) ∧
  (∀  (nx : Nat) (h r : PF) (s : Int → Int) (Q : PO → PY → Nat → PC → Prop), (Wp 146 8 [some (pR 178)] [pR 178] LY nx (h, r, s) Q ↔ Wp 146 9 [some (pR 178)] [pI 1, pR 178] LY nx (h, r, s) Q)) ∧
  (∀ (x1 : Int) (nx : Nat) (h r : PF) (s : Int → Int) (Q : PO → PY → Nat → PC → Prop), (Wp 146 9 [some (pR 178)] [pI x1, pR 178] LY nx (h, r, s) Q ↔ Wp 143 0 [some (pR 178), some (pI x1), none] [] LY nx (h, r, s) (Kc 146 9 [some (pR 178)] 12 [] Q))) ∧
  (∀ (x0 : Int) (nx : Nat) (h r : PF) (s : Int → Int) (Q : PO → PY → Nat → PC → Prop), (Wp 146 12 [some (pR 178)] [pI x0] LY nx (h, r, s) Q ↔ (if x0 ≠ 0 then Wp 146 17 [some (pR 178)] [] LY nx (h, r, s) Q else Wp 146 15 [some (pR 178)] [] LY nx (h, r, s) Q))) ∧
  (∀  (nx : Nat) (h r : PF) (s : Int → Int) (Q : PO → PY → Nat → PC → Prop), (Wp 146 15 [some (pR 178)] [] LY nx (h, r, s) Q ↔ Wp 146 16 [some (pR 178)] [pI 0] LY nx (h, r, s) Q)) ∧
  (∀ (x0 : Int) (nx : Nat) (h r : PF) (s : Int → Int) (Q : PO → PY → Nat → PC → Prop), x0 = 0 ∨ x0 = 1 → (Wp 146 16 [some (pR 178)] [pI x0] LY nx (h, r, s) Q ↔ Q (Sum.inl (some (pI x0))) LY nx (h, r, s))) ∧
  (∀  (nx : Nat) (h r : PF) (s : Int → Int) (Q : PO → PY → Nat → PC → Prop), (Wp 146 17 [some (pR 178)] [] LY nx (h, r, s) Q ↔ Wp 146 18 [some (pR 178)] [pR 178] LY nx (h, r, s) Q)) ∧
  (∀  (nx : Nat) (h r : PF) (s : Int → Int) (Q : PO → PY → Nat → PC → Prop), (Wp 146 18 [some (pR 178)] [pR 178] LY nx (h, r, s) Q ↔ Wp 146 19 [some (pR 178)] [pR 178, pR 178] LY nx (h, r, s) Q)) ∧
  (∀  (nx : Nat) (h r : PF) (s : Int → Int) (Q : PO → PY → Nat → PC → Prop), (Wp 146 19 [some (pR 178)] [pR 178, pR 178] LY nx (h, r, s) Q ↔ Wp 146 20 [some (pR 178)] [pR 178, pR 178, pR 178] LY nx (h, r, s) Q)) ∧
  (∀  (nx : Nat) (h r : PF) (s : Int → Int) (Q : PO → PY → Nat → PC → Prop), (Wp 146 20 [some (pR 178)] [pR 178, pR 178, pR 178] LY nx (h, r, s) Q ↔ Wp 146 23 [some (pR 178)] [pI (h 178 13), pR 178, pR 178] LY nx (h, r, s) Q)) ∧
  (∀ (x2 : Int) (nx : Nat) (h r : PF) (s : Int → Int) (Q : PO → PY → Nat → PC → Prop), (Wp 146 23 [some (pR 178)] [pI x2, pR 178, pR 178] LY nx (h, r, s) Q ↔ Wp 142 0 [some (pR 178), some (pI x2)] [] LY nx (h, r, s) (Kc 146 23 [some (pR 178)] 26 [pR 178] Q))) ∧
  (∀ (x1 : Int) (nx : Nat) (h r : PF) (s : Int → Int) (Q : PO → PY → Nat → PC → Prop), (Wp 146 26 [some (pR 178)] [pI x1, pR 178] LY nx (h, r, s) Q ↔ Wp 146 27 [some (pR 178)] [pI 1, pI x1, pR 178] LY nx (h, r, s) Q)) ∧
  (∀ (x1 : Int) (x2 : Int) (nx : Nat) (h r : PF) (s : Int → Int) (Q : PO → PY → Nat → PC → Prop), (Wp 146 27 [some (pR 178)] [pI x2, pI x1, pR 178] LY nx (h, r, s) Q ↔ Wp 146 28 [some (pR 178)] [pI (w32 (x1 + x2)), pR 178] LY nx (h, r, s) Q)) ∧
  (∀ (x1 : Int) (nx : Nat) (h r : PF) (s : Int → Int) (Q : PO → PY → Nat → PC → Prop), (Wp 146 28 [some (pR 178)] [pI x1, pR 178] LY nx (h, r, s) Q ↔ Wp 146 29 [some (pR 178)] [pI 1, pI x1, pR 178] LY nx (h, r, s) Q)) ∧
  (∀ (x1 : Int) (x2 : Int) (nx : Nat) (h r : PF) (s : Int → Int) (Q : PO → PY → Nat → PC → Prop), (Wp 146 29 [some (pR 178)] [pI x2, pI x1, pR 178] LY nx (h, r, s) Q ↔ Wp 146 31 [some (pR 178)] [pI 99, pI x2, pI x1, pR 178] LY nx (h, r, s) Q)) ∧
  (∀ (x1 : Int) (x2 : Int) (x3 : Int) (nx : Nat) (h r : PF) (s : Int → Int) (Q : PO → PY → Nat → PC → Prop), (Wp 146 31 [some (pR 178)] [pI x3, pI x2, pI x1, pR 178] LY nx (h, r, s) Q ↔ Wp 137 0 [some (pR 178), some (pI x1), some (pI x2), some (pI x3)] [] LY nx (h, r, s) (Kc 146 31 [some (pR 178)] 34 [] Q))) ∧
  (∀ (x0 : Int) (nx : Nat) (h r : PF) (s : Int → Int) (Q : PO → PY → Nat → PC → Prop), x0 = 0 ∨ x0 = 1 → (Wp 146 34 [some (pR 178)] [pI x0] LY nx (h, r, s) Q ↔ Q (Sum.inl (some (pI x0))) LY nx (h, r, s))) :=
  ⟨fun  nx h r s Q  => o_aload_n (by decide +kernel : pcode 146 0 = some (10, 0, 0, 0, 0)) rfl,
  fun  nx h r s Q  => o_ivV (s1 := []) (s2 := []) (o := 178) (by decide +kernel : pcode 146 1 = some (78, 141, 1, 1386, 157)) rfl (Nat.le_of_ble_eq_true rfl) (by decide) (by decide +kernel) rfl rfl rfl,
  fun x0 nx h r s Q  => o_if_eq (by decide +kernel : pcode 146 4 = some (41, 15, 0, 0, 11)),
  fun  nx h r s Q  => o_aload_n (by decide +kernel : pcode 146 7 = some (10, 0, 0, 0, 0)) rfl,
  fun  nx h r s Q  => o_iconst (by decide +kernel : pcode 146 8 = some (1, 0, 0, 0, 1)),
  fun x1 nx h r s Q  => o_ivV (s1 := [pI x1]) (s2 := []) (o := 178) (by decide +kernel : pcode 146 9 = some (78, 143, 2, 1390, 161)) rfl (Nat.le_of_ble_eq_true rfl) (by decide) (by decide +kernel) rfl rfl rfl,
  fun x0 nx h r s Q  => o_if_ne (by decide +kernel : pcode 146 12 = some (42, 17, 0, 0, 5)),
  fun  nx h r s Q  => o_iconst (by decide +kernel : pcode 146 15 = some (1, 0, 0, 0, 0)),
  fun x0 nx h r s Q hz => o_zret (by decide +kernel : pcode 146 16 = some (88, 0, 0, 0, 0)) hz,
  fun  nx h r s Q  => o_aload_n (by decide +kernel : pcode 146 17 = some (10, 0, 0, 0, 0)) rfl,
  fun  nx h r s Q  => o_aload_n (by decide +kernel : pcode 146 18 = some (10, 0, 0, 0, 0)) rfl,
  fun  nx h r s Q  => o_aload_n (by decide +kernel : pcode 146 19 = some (10, 0, 0, 0, 0)) rfl,
  fun  nx h r s Q  => o_getI (by decide +kernel : pcode 146 20 = some (55, 1230, 8, 13, 127)) (by decide) (by decide +kernel),
  fun x2 nx h r s Q  => o_ivV (s1 := [pI x2]) (s2 := [pR 178]) (o := 178) (by decide +kernel : pcode 146 23 = some (78, 142, 2, 1394, 154)) rfl (Nat.le_of_ble_eq_true rfl) (by decide) (by decide +kernel) rfl rfl rfl,
  fun x1 nx h r s Q  => o_iconst (by decide +kernel : pcode 146 26 = some (1, 0, 0, 0, 1)),
  fun x1 x2 nx h r s Q  => o_iadd (by decide +kernel : pcode 146 27 = some (19, 0, 0, 0, 0)),
  fun x1 nx h r s Q  => o_iconst (by decide +kernel : pcode 146 28 = some (1, 0, 0, 0, 1)),
  fun x1 x2 nx h r s Q  => o_bipush (by decide +kernel : pcode 146 29 = some (2, 0, 0, 0, 99)),
  fun x1 x2 x3 nx h r s Q  => o_ivV (s1 := [pI x3, pI x2, pI x1]) (s2 := []) (o := 178) (by decide +kernel : pcode 146 31 = some (78, 137, 4, 1355, 142)) rfl (Nat.le_of_ble_eq_true rfl) (by decide) (by decide +kernel) rfl rfl rfl,
  fun x0 nx h r s Q hz => o_zret (by decide +kernel : pcode 146 34 = some (88, 0, 0, 0, 0)) hz⟩
set_option maxHeartbeats 4000000 in
set_option maxRecDepth 10000 in
theorem st_X8_turnLine :
  (∀  (nx : Nat) (h r : PF) (s : Int → Int) (Q : PO → PY → Nat → PC → Prop), (Wp 147 0 [some (pR 178)] [] LY nx (h, r, s) Q ↔ Wp 147 1 [some (pR 178)] [pR 178] LY nx (h, r, s) Q)) ∧
  (∀  (nx : Nat) (h r : PF) (s : Int → Int) (Q : PO → PY → Nat → PC → Prop), (Wp 147 1 [some (pR 178)] [pR 178] LY nx (h, r, s) Q ↔ Wp 147 2 [some (pR 178)] [pI 2, pR 178] LY nx (h, r, s) Q)) ∧
  (∀ (x1 : Int) (nx : Nat) (h r : PF) (s : Int → Int) (Q : PO → PY → Nat → PC → Prop), (Wp 147 2 [some (pR 178)] [pI x1, pR 178] LY nx (h, r, s) Q ↔ Wp 147 3 [some (pR 178)] [pR 178, pI x1, pR 178] LY nx (h, r, s) Q)) ∧
  (∀ (x1 : Int) (nx : Nat) (h r : PF) (s : Int → Int) (Q : PO → PY → Nat → PC → Prop), (Wp 147 3 [some (pR 178)] [pR 178, pI x1, pR 178] LY nx (h, r, s) Q ↔ Wp 147 6 [some (pR 178)] [pI (h 178 14), pI x1, pR 178] LY nx (h, r, s) Q)) ∧
  (∀ (x1 : Int) (x2 : Int) (nx : Nat) (h r : PF) (s : Int → Int) (Q : PO → PY → Nat → PC → Prop), (Wp 147 6 [some (pR 178)] [pI x2, pI x1, pR 178] LY nx (h, r, s) Q ↔ (if x2 ≠ 0 then Wp 147 13 [some (pR 178)] [pI x1, pR 178] LY nx (h, r, s) Q else Wp 147 9 [some (pR 178)] [pI x1, pR 178] LY nx (h, r, s) Q))) ∧
  (∀ (x1 : Int) (nx : Nat) (h r : PF) (s : Int → Int) (Q : PO → PY → Nat → PC → Prop), (Wp 147 9 [some (pR 178)] [pI x1, pR 178] LY nx (h, r, s) Q ↔ Wp 147 10 [some (pR 178)] [pI 1, pI x1, pR 178] LY nx (h, r, s) Q)) ∧
  (∀ (x1 : Int) (x2 : Int) (nx : Nat) (h r : PF) (s : Int → Int) (Q : PO → PY → Nat → PC → Prop), (Wp 147 10 [some (pR 178)] [pI x2, pI x1, pR 178] LY nx (h, r, s) Q ↔ Wp 147 14 [some (pR 178)] [pI x2, pI x1, pR 178] LY nx (h, r, s) Q)) ∧
  (∀ (x1 : Int) (nx : Nat) (h r : PF) (s : Int → Int) (Q : PO → PY → Nat → PC → Prop), (Wp 147 13 [some (pR 178)] [pI x1, pR 178] LY nx (h, r, s) Q ↔ Wp 147 14 [some (pR 178)] [pI 0, pI x1, pR 178] LY nx (h, r, s) Q)) ∧
  (∀ (x1 : Int) (x2 : Int) (nx : Nat) (h r : PF) (s : Int → Int) (Q : PO → PY → Nat → PC → Prop), (Wp 147 14 [some (pR 178)] [pI x2, pI x1, pR 178] LY nx (h, r, s) Q ↔ Wp 135 0 [some (pR 178), some (pI x1), some (pI x2)] [] LY nx (h, r, s) (Kc 147 14 [some (pR 178)] 17 [] Q))) ∧
  (∀ (x0 : Int) (nx : Nat) (h r : PF) (s : Int → Int) (Q : PO → PY → Nat → PC → Prop), (Wp 147 17 [some (pR 178)] [pI x0] LY nx (h, r, s) Q ↔ (if x0 ≠ 0 then Wp 147 22 [some (pR 178)] [] LY nx (h, r, s) Q else Wp 147 20 [some (pR 178)] [] LY nx (h, r, s) Q))) ∧
  (∀  (nx : Nat) (h r : PF) (s : Int → Int) (Q : PO → PY → Nat → PC → Prop), (Wp 147 20 [some (pR 178)] [] LY nx (h, r, s) Q ↔ Wp 147 21 [some (pR 178)] [pI 0] LY nx (h, r, s) Q)) ∧
  (∀ (x0 : Int) (nx : Nat) (h r : PF) (s : Int → Int) (Q : PO → PY → Nat → PC → Prop), x0 = 0 ∨ x0 = 1 → (Wp 147 21 [some (pR 178)] [pI x0] LY nx (h, r, s) Q ↔ Q (Sum.inl (some (pI x0))) LY nx (h, r, s))) ∧
  (∀  (nx : Nat) (h r : PF) (s : Int → Int) (Q : PO → PY → Nat → PC → Prop), (Wp 147 22 [some (pR 178)] [] LY nx (h, r, s) Q ↔ Wp 147 23 [some (pR 178)] [pR 178] LY nx (h, r, s) Q)) ∧
  (∀  (nx : Nat) (h r : PF) (s : Int → Int) (Q : PO → PY → Nat → PC → Prop), (Wp 147 23 [some (pR 178)] [pR 178] LY nx (h, r, s) Q ↔ Wp 147 24 [some (pR 178)] [pI 1, pR 178] LY nx (h, r, s) Q)) ∧
  (∀ (x1 : Int) (nx : Nat) (h r : PF) (s : Int → Int) (Q : PO → PY → Nat → PC → Prop), x1 = 0 ∨ x1 = 1 → (Wp 147 24 [some (pR 178)] [pI x1, pR 178] LY nx (h, r, s) Q ↔ Wp 147 27 [some (pR 178)] [] LY nx (fup h 178 14 x1, r, s) Q)) ∧
  (∀  (nx : Nat) (h r : PF) (s : Int → Int) (Q : PO → PY → Nat → PC → Prop), (Wp 147 27 [some (pR 178)] [] LY nx (h, r, s) Q ↔ Wp 147 28 [some (pR 178)] [pR 178] LY nx (h, r, s) Q)) ∧
  (∀  (nx : Nat) (h r : PF) (s : Int → Int) (Q : PO → PY → Nat → PC → Prop), (Wp 147 28 [some (pR 178)] [pR 178] LY nx (h, r, s) Q ↔ Wp 147 29 [some (pR 178)] [pI 2, pR 178] LY nx (h, r, s) Q)) ∧
  (∀ (x1 : Int) (nx : Nat) (h r : PF) (s : Int → Int) (Q : PO → PY → Nat → PC → Prop), (Wp 147 29 [some (pR 178)] [pI x1, pR 178] LY nx (h, r, s) Q ↔ Wp 147 30 [some (pR 178)] [pI 1, pI x1, pR 178] LY nx (h, r, s) Q)) ∧
  (∀ (x1 : Int) (x2 : Int) (nx : Nat) (h r : PF) (s : Int → Int) (Q : PO → PY → Nat → PC → Prop), (Wp 147 30 [some (pR 178)] [pI x2, pI x1, pR 178] LY nx (h, r, s) Q ↔ Wp 147 32 [some (pR 178)] [pI 20, pI x2, pI x1, pR 178] LY nx (h, r, s) Q)) ∧
  (∀ (x1 : Int) (x2 : Int) (x3 : Int) (nx : Nat) (h r : PF) (s : Int → Int) (Q : PO → PY → Nat → PC → Prop), (Wp 147 32 [some (pR 178)] [pI x3, pI x2, pI x1, pR 178] LY nx (h, r, s) Q ↔ Wp 137 0 [some (pR 178), some (pI x1), some (pI x2), some (pI x3)] [] LY nx (h, r, s) (Kc 147 32 [some (pR 178)] 35 [] Q))) ∧
  (∀ (x0 : Int) (nx : Nat) (h r : PF) (s : Int → Int) (Q : PO → PY → Nat → PC → Prop), (Wp 147 35 [some (pR 178)] [pI x0] LY nx (h, r, s) Q ↔ (if x0 = 0 then Wp 147 53 [some (pR 178)] [] LY nx (h, r, s) Q else Wp 147 38 [some (pR 178)] [] LY nx (h, r, s) Q))) ∧
  (∀  (nx : Nat) (h r : PF) (s : Int → Int) (Q : PO → PY → Nat → PC → Prop), (Wp 147 38 [some (pR 178)] [] LY nx (h, r, s) Q ↔ Wp 147 39 [some (pR 178)] [pR 178] LY nx (h, r, s) Q)) ∧
  (∀  (nx : Nat) (h r : PF) (s : Int → Int) (Q : PO → PY → Nat → PC → Prop), (Wp 147 39 [some (pR 178)] [pR 178] LY nx (h, r, s) Q ↔ Wp 147 40 [some (pR 178)] [pI 3, pR 178] LY nx (h, r, s) Q)) ∧
  (∀ (x1 : Int) (nx : Nat) (h r : PF) (s : Int → Int) (Q : PO → PY → Nat → PC → Prop), (Wp 147 40 [some (pR 178)] [pI x1, pR 178] LY nx (h, r, s) Q ↔ Wp 147 41 [some (pR 178)] [pI 0, pI x1, pR 178] LY nx (h, r, s) Q)) ∧
  (∀ (x1 : Int) (x2 : Int) (nx : Nat) (h r : PF) (s : Int → Int) (Q : PO → PY → Nat → PC → Prop), (Wp 147 41 [some (pR 178)] [pI x2, pI x1, pR 178] LY nx (h, r, s) Q ↔ Wp 147 43 [some (pR 178)] [pI 99, pI x2, pI x1, pR 178] LY nx (h, r, s) Q)) ∧
  (∀ (x1 : Int) (x2 : Int) (x3 : Int) (nx : Nat) (h r : PF) (s : Int → Int) (Q : PO → PY → Nat → PC → Prop), (Wp 147 43 [some (pR 178)] [pI x3, pI x2, pI x1, pR 178] LY nx (h, r, s) Q ↔ Wp 137 0 [some (pR 178), some (pI x1), some (pI x2), some (pI x3)] [] LY nx (h, r, s) (Kc 147 43 [some (pR 178)] 46 [] Q))) ∧
  (∀ (x0 : Int) (nx : Nat) (h r : PF) (s : Int → Int) (Q : PO → PY → Nat → PC → Prop), (Wp 147 46 [some (pR 178)] [pI x0] LY nx (h, r, s) Q ↔ (if x0 = 0 then Wp 147 53 [some (pR 178)] [] LY nx (h, r, s) Q else Wp 147 49 [some (pR 178)] [] LY nx (h, r, s) Q))) ∧
  (∀  (nx : Nat) (h r : PF) (s : Int → Int) (Q : PO → PY → Nat → PC → Prop), (Wp 147 49 [some (pR 178)] [] LY nx (h, r, s) Q ↔ Wp 147 50 [some (pR 178)] [pI 1] LY nx (h, r, s) Q)) ∧
  (∀ (x0 : Int) (nx : Nat) (h r : PF) (s : Int → Int) (Q : PO → PY → Nat → PC → Prop), (Wp 147 50 [some (pR 178)] [pI x0] LY nx (h, r, s) Q ↔ Wp 147 54 [some (pR 178)] [pI x0] LY nx (h, r, s) Q)) ∧
  (∀  (nx : Nat) (h r : PF) (s : Int → Int) (Q : PO → PY → Nat → PC → Prop), (Wp 147 53 [some (pR 178)] [] LY nx (h, r, s) Q ↔ Wp 147 54 [some (pR 178)] [pI 0] LY nx (h, r, s) Q)) ∧
  (∀ (x0 : Int) (nx : Nat) (h r : PF) (s : Int → Int) (Q : PO → PY → Nat → PC → Prop), x0 = 0 ∨ x0 = 1 → (Wp 147 54 [some (pR 178)] [pI x0] LY nx (h, r, s) Q ↔ Q (Sum.inl (some (pI x0))) LY nx (h, r, s))) :=
  ⟨fun  nx h r s Q  => o_aload_n (by decide +kernel : pcode 147 0 = some (10, 0, 0, 0, 0)) rfl,
  fun  nx h r s Q  => o_iconst (by decide +kernel : pcode 147 1 = some (1, 0, 0, 0, 2)),
  fun x1 nx h r s Q  => o_aload_n (by decide +kernel : pcode 147 2 = some (10, 0, 0, 0, 0)) rfl,
  fun x1 nx h r s Q  => o_getI (by decide +kernel : pcode 147 3 = some (55, 1231, 8, 14, 164)) (by decide) (by decide +kernel),
  fun x1 x2 nx h r s Q  => o_if_ne (by decide +kernel : pcode 147 6 = some (42, 13, 0, 0, 7)),
  fun x1 nx h r s Q  => o_iconst (by decide +kernel : pcode 147 9 = some (1, 0, 0, 0, 1)),
  fun x1 x2 nx h r s Q  => o_goto (by decide +kernel : pcode 147 10 = some (53, 14, 0, 0, 4)),
  fun x1 nx h r s Q  => o_iconst (by decide +kernel : pcode 147 13 = some (1, 0, 0, 0, 0)),
  fun x1 x2 nx h r s Q  => o_ivV (s1 := [pI x2, pI x1]) (s2 := []) (o := 178) (by decide +kernel : pcode 147 14 = some (78, 135, 3, 1347, 134)) rfl (Nat.le_of_ble_eq_true rfl) (by decide) (by decide +kernel) rfl rfl rfl,
  fun x0 nx h r s Q  => o_if_ne (by decide +kernel : pcode 147 17 = some (42, 22, 0, 0, 5)),
  fun  nx h r s Q  => o_iconst (by decide +kernel : pcode 147 20 = some (1, 0, 0, 0, 0)),
  fun x0 nx h r s Q hz => o_zret (by decide +kernel : pcode 147 21 = some (88, 0, 0, 0, 0)) hz,
  fun  nx h r s Q  => o_aload_n (by decide +kernel : pcode 147 22 = some (10, 0, 0, 0, 0)) rfl,
  fun  nx h r s Q  => o_iconst (by decide +kernel : pcode 147 23 = some (1, 0, 0, 0, 1)),
  fun x1 nx h r s Q hz => o_putZ (by decide +kernel : pcode 147 24 = some (59, 1231, 8, 14, 164)) (by decide) (by decide +kernel) hz,
  fun  nx h r s Q  => o_aload_n (by decide +kernel : pcode 147 27 = some (10, 0, 0, 0, 0)) rfl,
  fun  nx h r s Q  => o_iconst (by decide +kernel : pcode 147 28 = some (1, 0, 0, 0, 2)),
  fun x1 nx h r s Q  => o_iconst (by decide +kernel : pcode 147 29 = some (1, 0, 0, 0, 1)),
  fun x1 x2 nx h r s Q  => o_bipush (by decide +kernel : pcode 147 30 = some (2, 0, 0, 0, 20)),
  fun x1 x2 x3 nx h r s Q  => o_ivV (s1 := [pI x3, pI x2, pI x1]) (s2 := []) (o := 178) (by decide +kernel : pcode 147 32 = some (78, 137, 4, 1355, 142)) rfl (Nat.le_of_ble_eq_true rfl) (by decide) (by decide +kernel) rfl rfl rfl,
  fun x0 nx h r s Q  => o_if_eq (by decide +kernel : pcode 147 35 = some (41, 53, 0, 0, 18)),
  fun  nx h r s Q  => o_aload_n (by decide +kernel : pcode 147 38 = some (10, 0, 0, 0, 0)) rfl,
  fun  nx h r s Q  => o_iconst (by decide +kernel : pcode 147 39 = some (1, 0, 0, 0, 3)),
  fun x1 nx h r s Q  => o_iconst (by decide +kernel : pcode 147 40 = some (1, 0, 0, 0, 0)),
  fun x1 x2 nx h r s Q  => o_bipush (by decide +kernel : pcode 147 41 = some (2, 0, 0, 0, 99)),
  fun x1 x2 x3 nx h r s Q  => o_ivV (s1 := [pI x3, pI x2, pI x1]) (s2 := []) (o := 178) (by decide +kernel : pcode 147 43 = some (78, 137, 4, 1355, 142)) rfl (Nat.le_of_ble_eq_true rfl) (by decide) (by decide +kernel) rfl rfl rfl,
  fun x0 nx h r s Q  => o_if_eq (by decide +kernel : pcode 147 46 = some (41, 53, 0, 0, 7)),
  fun  nx h r s Q  => o_iconst (by decide +kernel : pcode 147 49 = some (1, 0, 0, 0, 1)),
  fun x0 nx h r s Q  => o_goto (by decide +kernel : pcode 147 50 = some (53, 54, 0, 0, 4)),
  fun  nx h r s Q  => o_iconst (by decide +kernel : pcode 147 53 = some (1, 0, 0, 0, 0)),
  fun x0 nx h r s Q hz => o_zret (by decide +kernel : pcode 147 54 = some (88, 0, 0, 0, 0)) hz⟩
set_option maxHeartbeats 4000000 in
set_option maxRecDepth 10000 in
theorem st_X8_statement :
  (∀  (nx : Nat) (h r : PF) (s : Int → Int) (Q : PO → PY → Nat → PC → Prop), (Wp 148 0 [some (pR 178)] [] LY nx (h, r, s) Q ↔ Wp 148 1 [some (pR 178)] [pR 178] LY nx (h, r, s) Q)) ∧
  (∀  (nx : Nat) (h r : PF) (s : Int → Int) (Q : PO → PY → Nat → PC → Prop), (Wp 148 1 [some (pR 178)] [pR 178] LY nx (h, r, s) Q ↔ Wp 148 3 [some (pR 178)] [pR (-2), pR 178] LY nx (h, r, s) Q)) ∧
  (∀  (nx : Nat) (h r : PF) (s : Int → Int) (Q : PO → PY → Nat → PC → Prop), (Wp 148 3 [some (pR 178)] [pR (-2), pR 178] LY nx (h, r, s) Q ↔ Wp 133 0 [some (pR 178), some (pR (-2)), none, none] [] LY nx (h, r, s) (Kc 148 3 [some (pR 178)] 6 [] Q))) ∧
  (∀ (x0 : Int) (nx : Nat) (h r : PF) (s : Int → Int) (Q : PO → PY → Nat → PC → Prop), (Wp 148 6 [some (pR 178)] [pI x0] LY nx (h, r, s) Q ↔ (if x0 = 0 then Wp 148 14 [some (pR 178)] [] LY nx (h, r, s) Q else Wp 148 9 [some (pR 178)] [] LY nx (h, r, s) Q))) ∧
  (∀  (nx : Nat) (h r : PF) (s : Int → Int) (Q : PO → PY → Nat → PC → Prop), (Wp 148 9 [some (pR 178)] [] LY nx (h, r, s) Q ↔ Wp 148 10 [some (pR 178)] [pR 178] LY nx (h, r, s) Q)) ∧
  (∀  (nx : Nat) (h r : PF) (s : Int → Int) (Q : PO → PY → Nat → PC → Prop), (Wp 148 10 [some (pR 178)] [pR 178] LY nx (h, r, s) Q ↔ Wp 140 0 [some (pR 178), none, none, none, none] [] LY nx (h, r, s) (Kc 148 10 [some (pR 178)] 13 [] Q))) ∧
  (∀ (x0 : Int) (nx : Nat) (h r : PF) (s : Int → Int) (Q : PO → PY → Nat → PC → Prop), x0 = 0 ∨ x0 = 1 → (Wp 148 13 [some (pR 178)] [pI x0] LY nx (h, r, s) Q ↔ Q (Sum.inl (some (pI x0))) LY nx (h, r, s))) ∧
  (∀  (nx : Nat) (h r : PF) (s : Int → Int) (Q : PO → PY → Nat → PC → Prop), (Wp 148 14 [some (pR 178)] [] LY nx (h, r, s) Q ↔ Wp 148 15 [some (pR 178)] [pR 178] LY nx (h, r, s) Q)) ∧
  (∀  (nx : Nat) (h r : PF) (s : Int → Int) (Q : PO → PY → Nat → PC → Prop), (Wp 148 15 [some (pR 178)] [pR 178] LY nx (h, r, s) Q ↔ Wp 148 17 [some (pR 178)] [pR (-5), pR 178] LY nx (h, r, s) Q)) ∧
  (∀  (nx : Nat) (h r : PF) (s : Int → Int) (Q : PO → PY → Nat → PC → Prop), (Wp 148 17 [some (pR 178)] [pR (-5), pR 178] LY nx (h, r, s) Q ↔ Wp 133 0 [some (pR 178), some (pR (-5)), none, none] [] LY nx (h, r, s) (Kc 148 17 [some (pR 178)] 20 [] Q))) ∧
  (∀ (x0 : Int) (nx : Nat) (h r : PF) (s : Int → Int) (Q : PO → PY → Nat → PC → Prop), (Wp 148 20 [some (pR 178)] [pI x0] LY nx (h, r, s) Q ↔ (if x0 = 0 then Wp 148 28 [some (pR 178)] [] LY nx (h, r, s) Q else Wp 148 23 [some (pR 178)] [] LY nx (h, r, s) Q))) ∧
  (∀  (nx : Nat) (h r : PF) (s : Int → Int) (Q : PO → PY → Nat → PC → Prop), (Wp 148 23 [some (pR 178)] [] LY nx (h, r, s) Q ↔ Wp 148 24 [some (pR 178)] [pR 178] LY nx (h, r, s) Q)) ∧
  (∀  (nx : Nat) (h r : PF) (s : Int → Int) (Q : PO → PY → Nat → PC → Prop), (Wp 148 24 [some (pR 178)] [pR 178] LY nx (h, r, s) Q ↔ Wp 144 0 [some (pR 178), none, none, none] [] LY nx (h, r, s) (Kc 148 24 [some (pR 178)] 27 [] Q))) ∧
  (∀ (x0 : Int) (nx : Nat) (h r : PF) (s : Int → Int) (Q : PO → PY → Nat → PC → Prop), x0 = 0 ∨ x0 = 1 → (Wp 148 27 [some (pR 178)] [pI x0] LY nx (h, r, s) Q ↔ Q (Sum.inl (some (pI x0))) LY nx (h, r, s))) ∧
  (∀  (nx : Nat) (h r : PF) (s : Int → Int) (Q : PO → PY → Nat → PC → Prop), (Wp 148 28 [some (pR 178)] [] LY nx (h, r, s) Q ↔ Wp 148 29 [some (pR 178)] [pR 178] LY nx (h, r, s) Q)) ∧
  (∀  (nx : Nat) (h r : PF) (s : Int → Int) (Q : PO → PY → Nat → PC → Prop), (Wp 148 29 [some (pR 178)] [pR 178] LY nx (h, r, s) Q ↔ Wp 148 31 [some (pR 178)] [pR (-6), pR 178] LY nx (h, r, s) Q)) ∧
  (∀  (nx : Nat) (h r : PF) (s : Int → Int) (Q : PO → PY → Nat → PC → Prop), (Wp 148 31 [some (pR 178)] [pR (-6), pR 178] LY nx (h, r, s) Q ↔ Wp 133 0 [some (pR 178), some (pR (-6)), none, none] [] LY nx (h, r, s) (Kc 148 31 [some (pR 178)] 34 [] Q))) ∧
  (∀ (x0 : Int) (nx : Nat) (h r : PF) (s : Int → Int) (Q : PO → PY → Nat → PC → Prop), (Wp 148 34 [some (pR 178)] [pI x0] LY nx (h, r, s) Q ↔ (if x0 = 0 then Wp 148 42 [some (pR 178)] [] LY nx (h, r, s) Q else Wp 148 37 [some (pR 178)] [] LY nx (h, r, s) Q))) ∧
  (∀  (nx : Nat) (h r : PF) (s : Int → Int) (Q : PO → PY → Nat → PC → Prop), (Wp 148 37 [some (pR 178)] [] LY nx (h, r, s) Q ↔ Wp 148 38 [some (pR 178)] [pR 178] LY nx (h, r, s) Q)) ∧
  (∀  (nx : Nat) (h r : PF) (s : Int → Int) (Q : PO → PY → Nat → PC → Prop), (Wp 148 38 [some (pR 178)] [pR 178] LY nx (h, r, s) Q ↔ Wp 145 0 [some (pR 178)] [] LY nx (h, r, s) (Kc 148 38 [some (pR 178)] 41 [] Q))) ∧
  (∀ (x0 : Int) (nx : Nat) (h r : PF) (s : Int → Int) (Q : PO → PY → Nat → PC → Prop), x0 = 0 ∨ x0 = 1 → (Wp 148 41 [some (pR 178)] [pI x0] LY nx (h, r, s) Q ↔ Q (Sum.inl (some (pI x0))) LY nx (h, r, s))) ∧
  (∀  (nx : Nat) (h r : PF) (s : Int → Int) (Q : PO → PY → Nat → PC → Prop), (Wp 148 42 [some (pR 178)] [] LY nx (h, r, s) Q ↔ Wp 148 43 [some (pR 178)] [pR 178] LY nx (h, r, s) Q)) ∧
  (∀  (nx : Nat) (h r : PF) (s : Int → Int) (Q : PO → PY → Nat → PC → Prop), (Wp 148 43 [some (pR 178)] [pR 178] LY nx (h, r, s) Q ↔ Wp 148 45 [some (pR 178)] [pR (-7), pR 178] LY nx (h, r, s) Q)) ∧
  (∀  (nx : Nat) (h r : PF) (s : Int → Int) (Q : PO → PY → Nat → PC → Prop), (Wp 148 45 [some (pR 178)] [pR (-7), pR 178] LY nx (h, r, s) Q ↔ Wp 133 0 [some (pR 178), some (pR (-7)), none, none] [] LY nx (h, r, s) (Kc 148 45 [some (pR 178)] 48 [] Q))) ∧
  (∀ (x0 : Int) (nx : Nat) (h r : PF) (s : Int → Int) (Q : PO → PY → Nat → PC → Prop), (Wp 148 48 [some (pR 178)] [pI x0] LY nx (h, r, s) Q ↔ (if x0 = 0 then Wp 148 56 [some (pR 178)] [] LY nx (h, r, s) Q else Wp 148 51 [some (pR 178)] [] LY nx (h, r, s) Q))) ∧
  (∀  (nx : Nat) (h r : PF) (s : Int → Int) (Q : PO → PY → Nat → PC → Prop), (Wp 148 51 [some (pR 178)] [] LY nx (h, r, s) Q ↔ Wp 148 52 [some (pR 178)] [pR 178] LY nx (h, r, s) Q)) ∧
  (∀  (nx : Nat) (h r : PF) (s : Int → Int) (Q : PO → PY → Nat → PC → Prop), (Wp 148 52 [some (pR 178)] [pR 178] LY nx (h, r, s) Q ↔ Wp 146 0 [some (pR 178)] [] LY nx (h, r, s) (Kc 148 52 [some (pR 178)] 55 [] Q))) ∧
  (∀ (x0 : Int) (nx : Nat) (h r : PF) (s : Int → Int) (Q : PO → PY → Nat → PC → Prop), x0 = 0 ∨ x0 = 1 → (Wp 148 55 [some (pR 178)] [pI x0] LY nx (h, r, s) Q ↔ Q (Sum.inl (some (pI x0))) LY nx (h, r, s))) ∧
  (∀  (nx : Nat) (h r : PF) (s : Int → Int) (Q : PO → PY → Nat → PC → Prop), (Wp 148 56 [some (pR 178)] [] LY nx (h, r, s) Q ↔ Wp 148 57 [some (pR 178)] [pR 178] LY nx (h, r, s) Q)) ∧
  (∀  (nx : Nat) (h r : PF) (s : Int → Int) (Q : PO → PY → Nat → PC → Prop), (Wp 148 57 [some (pR 178)] [pR 178] LY nx (h, r, s) Q ↔ Wp 148 59 [some (pR 178)] [pR (-4), pR 178] LY nx (h, r, s) Q)) ∧
  (∀  (nx : Nat) (h r : PF) (s : Int → Int) (Q : PO → PY → Nat → PC → Prop), (Wp 148 59 [some (pR 178)] [pR (-4), pR 178] LY nx (h, r, s) Q ↔ Wp 133 0 [some (pR 178), some (pR (-4)), none, none] [] LY nx (h, r, s) (Kc 148 59 [some (pR 178)] 62 [] Q))) ∧
  (∀ (x0 : Int) (nx : Nat) (h r : PF) (s : Int → Int) (Q : PO → PY → Nat → PC → Prop), (Wp 148 62 [some (pR 178)] [pI x0] LY nx (h, r, s) Q ↔ (if x0 = 0 then Wp 148 72 [some (pR 178)] [] LY nx (h, r, s) Q else Wp 148 65 [some (pR 178)] [] LY nx (h, r, s) Q))) ∧
  (∀  (nx : Nat) (h r : PF) (s : Int → Int) (Q : PO → PY → Nat → PC → Prop), (Wp 148 65 [some (pR 178)] [] LY nx (h, r, s) Q ↔ Wp 148 66 [some (pR 178)] [pR 178] LY nx (h, r, s) Q)) ∧
  (∀  (nx : Nat) (h r : PF) (s : Int → Int) (Q : PO → PY → Nat → PC → Prop), (Wp 148 66 [some (pR 178)] [pR 178] LY nx (h, r, s) Q ↔ Wp 147 0 [some (pR 178)] [] LY nx (h, r, s) (Kc 148 66 [some (pR 178)] 69 [] Q))) ∧
  (∀ (x0 : Int) (nx : Nat) (h r : PF) (s : Int → Int) (Q : PO → PY → Nat → PC → Prop), (Wp 148 69 [some (pR 178)] [pI x0] LY nx (h, r, s) Q ↔ Wp 148 77 [some (pR 178)] [pI x0] LY nx (h, r, s) Q)) ∧
  (∀  (nx : Nat) (h r : PF) (s : Int → Int) (Q : PO → PY → Nat → PC → Prop), (Wp 148 72 [some (pR 178)] [] LY nx (h, r, s) Q ↔ Wp 148 73 [some (pR 178)] [pR 178] LY nx (h, r, s) Q)) ∧
  (∀  (nx : Nat) (h r : PF) (s : Int → Int) (Q : PO → PY → Nat → PC → Prop), (Wp 148 73 [some (pR 178)] [pR 178] LY nx (h, r, s) Q ↔ Wp 148 74 [some (pR 178)] [pI 1, pR 178] LY nx (h, r, s) Q)) ∧
  (∀ (x1 : Int) (nx : Nat) (h r : PF) (s : Int → Int) (Q : PO → PY → Nat → PC → Prop), (Wp 148 74 [some (pR 178)] [pI x1, pR 178] LY nx (h, r, s) Q ↔ Wp 134 0 [some (pR 178), some (pI x1)] [] LY nx (h, r, s) (Kc 148 74 [some (pR 178)] 77 [] Q))) ∧
  (∀ (x0 : Int) (nx : Nat) (h r : PF) (s : Int → Int) (Q : PO → PY → Nat → PC → Prop), x0 = 0 ∨ x0 = 1 → (Wp 148 77 [some (pR 178)] [pI x0] LY nx (h, r, s) Q ↔ Q (Sum.inl (some (pI x0))) LY nx (h, r, s))) :=
  ⟨fun  nx h r s Q  => o_aload_n (by decide +kernel : pcode 148 0 = some (10, 0, 0, 0, 0)) rfl,
  fun  nx h r s Q  => o_ldcs (by decide +kernel : pcode 148 1 = some (84, 1, 168, 0, 0)),
  fun  nx h r s Q  => o_ivV (s1 := [pR (-2)]) (s2 := []) (o := 178) (by decide +kernel : pcode 148 3 = some (78, 133, 2, 1341, 147)) rfl (Nat.le_of_ble_eq_true rfl) (by decide) (by decide +kernel) rfl rfl rfl,
  fun x0 nx h r s Q  => o_if_eq (by decide +kernel : pcode 148 6 = some (41, 14, 0, 0, 8)),
  fun  nx h r s Q  => o_aload_n (by decide +kernel : pcode 148 9 = some (10, 0, 0, 0, 0)) rfl,
  fun  nx h r s Q  => o_ivV (s1 := []) (s2 := []) (o := 178) (by decide +kernel : pcode 148 10 = some (78, 140, 1, 1372, 170)) rfl (Nat.le_of_ble_eq_true rfl) (by decide) (by decide +kernel) rfl rfl rfl,
  fun x0 nx h r s Q hz => o_zret (by decide +kernel : pcode 148 13 = some (88, 0, 0, 0, 0)) hz,
  fun  nx h r s Q  => o_aload_n (by decide +kernel : pcode 148 14 = some (10, 0, 0, 0, 0)) rfl,
  fun  nx h r s Q  => o_ldcs (by decide +kernel : pcode 148 15 = some (84, 4, 173, 0, 0)),
  fun  nx h r s Q  => o_ivV (s1 := [pR (-5)]) (s2 := []) (o := 178) (by decide +kernel : pcode 148 17 = some (78, 133, 2, 1341, 147)) rfl (Nat.le_of_ble_eq_true rfl) (by decide) (by decide +kernel) rfl rfl rfl,
  fun x0 nx h r s Q  => o_if_eq (by decide +kernel : pcode 148 20 = some (41, 28, 0, 0, 8)),
  fun  nx h r s Q  => o_aload_n (by decide +kernel : pcode 148 23 = some (10, 0, 0, 0, 0)) rfl,
  fun  nx h r s Q  => o_ivV (s1 := []) (s2 := []) (o := 178) (by decide +kernel : pcode 148 24 = some (78, 144, 1, 1382, 175)) rfl (Nat.le_of_ble_eq_true rfl) (by decide) (by decide +kernel) rfl rfl rfl,
  fun x0 nx h r s Q hz => o_zret (by decide +kernel : pcode 148 27 = some (88, 0, 0, 0, 0)) hz,
  fun  nx h r s Q  => o_aload_n (by decide +kernel : pcode 148 28 = some (10, 0, 0, 0, 0)) rfl,
  fun  nx h r s Q  => o_ldcs (by decide +kernel : pcode 148 29 = some (84, 5, 178, 0, 0)),
  fun  nx h r s Q  => o_ivV (s1 := [pR (-6)]) (s2 := []) (o := 178) (by decide +kernel : pcode 148 31 = some (78, 133, 2, 1341, 147)) rfl (Nat.le_of_ble_eq_true rfl) (by decide) (by decide +kernel) rfl rfl rfl,
  fun x0 nx h r s Q  => o_if_eq (by decide +kernel : pcode 148 34 = some (41, 42, 0, 0, 8)),
  fun  nx h r s Q  => o_aload_n (by decide +kernel : pcode 148 37 = some (10, 0, 0, 0, 0)) rfl,
  fun  nx h r s Q  => o_ivV (s1 := []) (s2 := []) (o := 178) (by decide +kernel : pcode 148 38 = some (78, 145, 1, 1399, 180)) rfl (Nat.le_of_ble_eq_true rfl) (by decide) (by decide +kernel) rfl rfl rfl,
  fun x0 nx h r s Q hz => o_zret (by decide +kernel : pcode 148 41 = some (88, 0, 0, 0, 0)) hz,
  fun  nx h r s Q  => o_aload_n (by decide +kernel : pcode 148 42 = some (10, 0, 0, 0, 0)) rfl,
  fun  nx h r s Q  => o_ldcs (by decide +kernel : pcode 148 43 = some (84, 6, 183, 0, 0)),
  fun  nx h r s Q  => o_ivV (s1 := [pR (-7)]) (s2 := []) (o := 178) (by decide +kernel : pcode 148 45 = some (78, 133, 2, 1341, 147)) rfl (Nat.le_of_ble_eq_true rfl) (by decide) (by decide +kernel) rfl rfl rfl,
  fun x0 nx h r s Q  => o_if_eq (by decide +kernel : pcode 148 48 = some (41, 56, 0, 0, 8)),
  fun  nx h r s Q  => o_aload_n (by decide +kernel : pcode 148 51 = some (10, 0, 0, 0, 0)) rfl,
  fun  nx h r s Q  => o_ivV (s1 := []) (s2 := []) (o := 178) (by decide +kernel : pcode 148 52 = some (78, 146, 1, 1404, 185)) rfl (Nat.le_of_ble_eq_true rfl) (by decide) (by decide +kernel) rfl rfl rfl,
  fun x0 nx h r s Q hz => o_zret (by decide +kernel : pcode 148 55 = some (88, 0, 0, 0, 0)) hz,
  fun  nx h r s Q  => o_aload_n (by decide +kernel : pcode 148 56 = some (10, 0, 0, 0, 0)) rfl,
  fun  nx h r s Q  => o_ldcs (by decide +kernel : pcode 148 57 = some (84, 3, 188, 0, 0)),
  fun  nx h r s Q  => o_ivV (s1 := [pR (-4)]) (s2 := []) (o := 178) (by decide +kernel : pcode 148 59 = some (78, 133, 2, 1341, 147)) rfl (Nat.le_of_ble_eq_true rfl) (by decide) (by decide +kernel) rfl rfl rfl,
  fun x0 nx h r s Q  => o_if_eq (by decide +kernel : pcode 148 62 = some (41, 72, 0, 0, 10)),
  fun  nx h r s Q  => o_aload_n (by decide +kernel : pcode 148 65 = some (10, 0, 0, 0, 0)) rfl,
  fun  nx h r s Q  => o_ivV (s1 := []) (s2 := []) (o := 178) (by decide +kernel : pcode 148 66 = some (78, 147, 1, 1409, 190)) rfl (Nat.le_of_ble_eq_true rfl) (by decide) (by decide +kernel) rfl rfl rfl,
  fun x0 nx h r s Q  => o_goto (by decide +kernel : pcode 148 69 = some (53, 77, 0, 0, 8)),
  fun  nx h r s Q  => o_aload_n (by decide +kernel : pcode 148 72 = some (10, 0, 0, 0, 0)) rfl,
  fun  nx h r s Q  => o_iconst (by decide +kernel : pcode 148 73 = some (1, 0, 0, 0, 1)),
  fun x1 nx h r s Q  => o_ivV (s1 := [pI x1]) (s2 := []) (o := 178) (by decide +kernel : pcode 148 74 = some (78, 134, 2, 1351, 120)) rfl (Nat.le_of_ble_eq_true rfl) (by decide) (by decide +kernel) rfl rfl rfl,
  fun x0 nx h r s Q hz => o_zret (by decide +kernel : pcode 148 77 = some (88, 0, 0, 0, 0)) hz⟩
set_option maxHeartbeats 4000000 in
set_option maxRecDepth 10000 in
theorem st_X8_clearsRead :
  (∀  (nx : Nat) (h r : PF) (s : Int → Int) (Q : PO → PY → Nat → PC → Prop), (Wp 149 0 [some (pR 178), none] [] LY nx (h, r, s) Q ↔ Wp 149 1 [some (pR 178), none] [pI 0] LY nx (h, r, s) Q)) ∧
  (∀ (x0 : Int) (nx : Nat) (h r : PF) (s : Int → Int) (Q : PO → PY → Nat → PC → Prop), (Wp 149 1 [some (pR 178), none] [pI x0] LY nx (h, r, s) Q ↔ Wp 149 2 [some (pR 178), some (pI x0)] [] LY nx (h, r, s) Q)) ∧
  (∀ (l1 : Int) (x0 : Int) (nx : Nat) (h r : PF) (s : Int → Int) (Q : PO → PY → Nat → PC → Prop), (Wp 149 3 [some (pR 178), some (pI l1)] [pI x0] LY nx (h, r, s) Q ↔ Wp 149 6 [some (pR 178), some (pI l1)] [pI 164, pI x0] LY nx (h, r, s) Q)) ∧
  (∀ (l1 : Int) (x0 : Int) (x1 : Int) (nx : Nat) (h r : PF) (s : Int → Int) (Q : PO → PY → Nat → PC → Prop), (Wp 149 6 [some (pR 178), some (pI l1)] [pI x1, pI x0] LY nx (h, r, s) Q ↔ (if x1 ≤ x0 then Wp 149 22 [some (pR 178), some (pI l1)] [] LY nx (h, r, s) Q else Wp 149 9 [some (pR 178), some (pI l1)] [] LY nx (h, r, s) Q))) ∧
  (∀ (l1 : Int) (nx : Nat) (h r : PF) (s : Int → Int) (Q : PO → PY → Nat → PC → Prop), (Wp 149 9 [some (pR 178), some (pI l1)] [] LY nx (h, r, s) Q ↔ Wp 149 10 [some (pR 178), some (pI l1)] [pR 178] LY nx (h, r, s) Q)) ∧
  (∀ (l1 : Int) (nx : Nat) (h r : PF) (s : Int → Int) (Q : PO → PY → Nat → PC → Prop), WFr r → (Wp 149 10 [some (pR 178), some (pI l1)] [pR 178] LY nx (h, r, s) Q ↔ Wp 149 13 [some (pR 178), some (pI l1)] [pR 182] LY nx (h, r, s) Q)) ∧
  (∀ (l1 : Int) (nx : Nat) (h r : PF) (s : Int → Int) (Q : PO → PY → Nat → PC → Prop), (Wp 149 13 [some (pR 178), some (pI l1)] [pR 182] LY nx (h, r, s) Q ↔ Wp 149 14 [some (pR 178), some (pI l1)] [pI l1, pR 182] LY nx (h, r, s) Q)) ∧
  (∀ (l1 : Int) (x1 : Int) (nx : Nat) (h r : PF) (s : Int → Int) (Q : PO → PY → Nat → PC → Prop), (Wp 149 14 [some (pR 178), some (pI l1)] [pI x1, pR 182] LY nx (h, r, s) Q ↔ Wp 149 15 [some (pR 178), some (pI l1)] [pI 0, pI x1, pR 182] LY nx (h, r, s) Q)) ∧
  (∀ (l1 : Int) (x1 : Int) (x2 : Int) (nx : Nat) (h r : PF) (s : Int → Int) (Q : PO → PY → Nat → PC → Prop), 0 ≤ x1 → x1 < 164 → (Wp 149 15 [some (pR 178), some (pI l1)] [pI x2, pI x1, pR 182] LY nx (h, r, s) Q ↔ Wp 149 16 [some (pR 178), some (pI l1)] [] LY nx (fup h 182 x1 x2, r, s) Q)) ∧
  (∀ (l1 : Int) (nx : Nat) (h r : PF) (s : Int → Int) (Q : PO → PY → Nat → PC → Prop), (Wp 149 16 [some (pR 178), some (pI l1)] [] LY nx (h, r, s) Q ↔ Wp 149 19 [some (pR 178), some (pI (w32 (l1 + 1)))] [] LY nx (h, r, s) Q)) ∧
  (∀ (l1 : Int) (nx : Nat) (h r : PF) (s : Int → Int) (Q : PO → PY → Nat → PC → Prop), (Wp 149 19 [some (pR 178), some (pI l1)] [] LY nx (h, r, s) Q ↔ Wp 149 2 [some (pR 178), some (pI l1)] [] LY nx (h, r, s) Q)) ∧
  (∀ (l1 : Int) (nx : Nat) (h r : PF) (s : Int → Int) (Q : PO → PY → Nat → PC → Prop), (Wp 149 22 [some (pR 178), some (pI l1)] [] LY nx (h, r, s) Q ↔ Wp 149 23 [some (pR 178), some (pI l1)] [pR 178] LY nx (h, r, s) Q)) ∧
  (∀ (l1 : Int) (nx : Nat) (h r : PF) (s : Int → Int) (Q : PO → PY → Nat → PC → Prop), WFr r → (Wp 149 23 [some (pR 178), some (pI l1)] [pR 178] LY nx (h, r, s) Q ↔ Wp 149 26 [some (pR 178), some (pI l1)] [pR 182] LY nx (h, r, s) Q)) ∧
  (∀ (l1 : Int) (nx : Nat) (h r : PF) (s : Int → Int) (Q : PO → PY → Nat → PC → Prop), (Wp 149 26 [some (pR 178), some (pI l1)] [pR 182] LY nx (h, r, s) Q ↔ Wp 149 27 [some (pR 178), some (pI l1)] [pI 2, pR 182] LY nx (h, r, s) Q)) ∧
  (∀ (l1 : Int) (x1 : Int) (nx : Nat) (h r : PF) (s : Int → Int) (Q : PO → PY → Nat → PC → Prop), (Wp 149 27 [some (pR 178), some (pI l1)] [pI x1, pR 182] LY nx (h, r, s) Q ↔ Wp 149 28 [some (pR 178), some (pI l1)] [pI 4, pI x1, pR 182] LY nx (h, r, s) Q)) ∧
  (∀ (l1 : Int) (x1 : Int) (x2 : Int) (nx : Nat) (h r : PF) (s : Int → Int) (Q : PO → PY → Nat → PC → Prop), 0 ≤ x1 → x1 < 164 → (Wp 149 28 [some (pR 178), some (pI l1)] [pI x2, pI x1, pR 182] LY nx (h, r, s) Q ↔ Wp 149 29 [some (pR 178), some (pI l1)] [] LY nx (fup h 182 x1 x2, r, s) Q)) ∧
  (∀ (l1 : Int) (nx : Nat) (h r : PF) (s : Int → Int) (Q : PO → PY → Nat → PC → Prop), (Wp 149 29 [some (pR 178), some (pI l1)] [] LY nx (h, r, s) Q ↔ Wp 149 30 [some (pR 178), some (pI l1)] [pR 178] LY nx (h, r, s) Q)) ∧
  (∀ (l1 : Int) (nx : Nat) (h r : PF) (s : Int → Int) (Q : PO → PY → Nat → PC → Prop), WFr r → (Wp 149 30 [some (pR 178), some (pI l1)] [pR 178] LY nx (h, r, s) Q ↔ Wp 149 33 [some (pR 178), some (pI l1)] [pR 182] LY nx (h, r, s) Q)) ∧
  (∀ (l1 : Int) (nx : Nat) (h r : PF) (s : Int → Int) (Q : PO → PY → Nat → PC → Prop), (Wp 149 33 [some (pR 178), some (pI l1)] [pR 182] LY nx (h, r, s) Q ↔ Wp 149 34 [some (pR 178), some (pI l1)] [pI 3, pR 182] LY nx (h, r, s) Q)) ∧
  (∀ (l1 : Int) (x1 : Int) (nx : Nat) (h r : PF) (s : Int → Int) (Q : PO → PY → Nat → PC → Prop), (Wp 149 34 [some (pR 178), some (pI l1)] [pI x1, pR 182] LY nx (h, r, s) Q ↔ Wp 149 35 [some (pR 178), some (pI l1)] [pI 1, pI x1, pR 182] LY nx (h, r, s) Q)) ∧
  (∀ (l1 : Int) (x1 : Int) (x2 : Int) (nx : Nat) (h r : PF) (s : Int → Int) (Q : PO → PY → Nat → PC → Prop), 0 ≤ x1 → x1 < 164 → (Wp 149 35 [some (pR 178), some (pI l1)] [pI x2, pI x1, pR 182] LY nx (h, r, s) Q ↔ Wp 149 36 [some (pR 178), some (pI l1)] [] LY nx (fup h 182 x1 x2, r, s) Q)) ∧
  (∀ (l1 : Int) (nx : Nat) (h r : PF) (s : Int → Int) (Q : PO → PY → Nat → PC → Prop), (Wp 149 36 [some (pR 178), some (pI l1)] [] LY nx (h, r, s) Q ↔ Wp 149 37 [some (pR 178), some (pI l1)] [pR 178] LY nx (h, r, s) Q)) ∧
  (∀ (l1 : Int) (nx : Nat) (h r : PF) (s : Int → Int) (Q : PO → PY → Nat → PC → Prop), (Wp 149 37 [some (pR 178), some (pI l1)] [pR 178] LY nx (h, r, s) Q ↔ Wp 149 38 [some (pR 178), some (pI l1)] [pI 0, pR 178] LY nx (h, r, s) Q)) ∧
  (∀ (l1 : Int) (x1 : Int) (nx : Nat) (h r : PF) (s : Int → Int) (Q : PO → PY → Nat → PC → Prop), x1 = 0 ∨ x1 = 1 → (Wp 149 38 [some (pR 178), some (pI l1)] [pI x1, pR 178] LY nx (h, r, s) Q ↔ Wp 149 41 [some (pR 178), some (pI l1)] [] LY nx (fup h 178 14 x1, r, s) Q)) ∧
  (∀ (l1 : Int) (nx : Nat) (h r : PF) (s : Int → Int) (Q : PO → PY → Nat → PC → Prop), (Wp 149 41 [some (pR 178), some (pI l1)] [] LY nx (h, r, s) Q ↔ Q (Sum.inl none) LY nx (h, r, s))) :=
  ⟨fun  nx h r s Q  => o_iconst (by decide +kernel : pcode 149 0 = some (1, 0, 0, 0, 0)),
  fun x0 nx h r s Q  => o_istore_n (by decide +kernel : pcode 149 1 = some (12, 1, 0, 0, 0)) rfl,
  fun l1 x0 nx h r s Q  => o_sipush (by decide +kernel : pcode 149 3 = some (3, 0, 0, 0, 164)),
  fun l1 x0 x1 nx h r s Q  => o_icmp_ge (by decide +kernel : pcode 149 6 = some (50, 22, 0, 0, 16)),
  fun l1 nx h r s Q  => o_aload_n (by decide +kernel : pcode 149 9 = some (10, 0, 0, 0, 0)) rfl,
  fun l1 nx h r s Q hw => o_getR (h := (h, r, s)) (by decide +kernel : pcode 149 10 = some (57, 1232, 8, 15, 24)) (by decide) (by decide +kernel) (hw _ (List.mem_of_getElem? (i := 175) rfl)) (by decide),
  fun l1 nx h r s Q  => o_iload_n (by decide +kernel : pcode 149 13 = some (6, 1, 0, 0, 0)) rfl,
  fun l1 x1 nx h r s Q  => o_iconst (by decide +kernel : pcode 149 14 = some (1, 0, 0, 0, 0)),
  fun l1 x1 x2 nx h r s Q hi hn => o_iast (h := (h, r, s)) (n := 164) (by decide +kernel : pcode 149 15 = some (64, 0, 0, 0, 0)) (by decide) (by decide +kernel) hi hn,
  fun l1 nx h r s Q  => o_iinc (by decide +kernel : pcode 149 16 = some (18, 1, 0, 0, 1)) rfl rfl,
  fun l1 nx h r s Q  => o_goto (by decide +kernel : pcode 149 19 = some (53, 2, 0, 0, -17)),
  fun l1 nx h r s Q  => o_aload_n (by decide +kernel : pcode 149 22 = some (10, 0, 0, 0, 0)) rfl,
  fun l1 nx h r s Q hw => o_getR (h := (h, r, s)) (by decide +kernel : pcode 149 23 = some (57, 1232, 8, 15, 24)) (by decide) (by decide +kernel) (hw _ (List.mem_of_getElem? (i := 175) rfl)) (by decide),
  fun l1 nx h r s Q  => o_iconst (by decide +kernel : pcode 149 26 = some (1, 0, 0, 0, 2)),
  fun l1 x1 nx h r s Q  => o_iconst (by decide +kernel : pcode 149 27 = some (1, 0, 0, 0, 4)),
  fun l1 x1 x2 nx h r s Q hi hn => o_iast (h := (h, r, s)) (n := 164) (by decide +kernel : pcode 149 28 = some (64, 0, 0, 0, 0)) (by decide) (by decide +kernel) hi hn,
  fun l1 nx h r s Q  => o_aload_n (by decide +kernel : pcode 149 29 = some (10, 0, 0, 0, 0)) rfl,
  fun l1 nx h r s Q hw => o_getR (h := (h, r, s)) (by decide +kernel : pcode 149 30 = some (57, 1232, 8, 15, 24)) (by decide) (by decide +kernel) (hw _ (List.mem_of_getElem? (i := 175) rfl)) (by decide),
  fun l1 nx h r s Q  => o_iconst (by decide +kernel : pcode 149 33 = some (1, 0, 0, 0, 3)),
  fun l1 x1 nx h r s Q  => o_iconst (by decide +kernel : pcode 149 34 = some (1, 0, 0, 0, 1)),
  fun l1 x1 x2 nx h r s Q hi hn => o_iast (h := (h, r, s)) (n := 164) (by decide +kernel : pcode 149 35 = some (64, 0, 0, 0, 0)) (by decide) (by decide +kernel) hi hn,
  fun l1 nx h r s Q  => o_aload_n (by decide +kernel : pcode 149 36 = some (10, 0, 0, 0, 0)) rfl,
  fun l1 nx h r s Q  => o_iconst (by decide +kernel : pcode 149 37 = some (1, 0, 0, 0, 0)),
  fun l1 x1 nx h r s Q hz => o_putZ (by decide +kernel : pcode 149 38 = some (59, 1231, 8, 14, 164)) (by decide) (by decide +kernel) hz,
  fun l1 nx h r s Q  => o_vret (by decide +kernel : pcode 149 41 = some (90, 0, 0, 0, 0))⟩
theorem sh_X8_clearsRead_2 {l1 : Int} {nx : Nat} {h r : PF} {s : Int → Int} {Q : PO → PY → Nat → PC → Prop} : (Wp 149 2 [some (pR 178), some (pI l1)] [] LY nx (h, r, s) Q ↔ Wp 149 3 [some (pR 178), some (pI l1)] [pI l1] LY nx (h, r, s) Q) := o_iload_n (by decide +kernel : pcode 149 2 = some (6, 1, 0, 0, 0)) rfl
