set_option maxHeartbeats 4000000 in
set_option maxRecDepth 10000 in
theorem st_J6_bitCount_0f7a4 :
  (∀ (l0 : Int) (nx : Nat) (h r : PF) (s : Int → Int) (Q : PO → PY → Nat → PC → Prop), (Wp 228 0 [some (pI l0)] [] LY nx (h, r, s) Q ↔ Wp 228 1 [some (pI l0)] [pI l0] LY nx (h, r, s) Q)) ∧
  (∀ (l0 : Int) (x0 : Int) (nx : Nat) (h r : PF) (s : Int → Int) (Q : PO → PY → Nat → PC → Prop), (Wp 228 1 [some (pI l0)] [pI x0] LY nx (h, r, s) Q ↔ Wp 228 2 [some (pI l0)] [pI l0, pI x0] LY nx (h, r, s) Q)) ∧
  (∀ (l0 : Int) (x0 : Int) (x1 : Int) (nx : Nat) (h r : PF) (s : Int → Int) (Q : PO → PY → Nat → PC → Prop), (Wp 228 2 [some (pI l0)] [pI x1, pI x0] LY nx (h, r, s) Q ↔ Wp 228 3 [some (pI l0)] [pI 1, pI x1, pI x0] LY nx (h, r, s) Q)) ∧
  (∀ (l0 : Int) (x0 : Int) (x1 : Int) (x2 : Int) (nx : Nat) (h r : PF) (s : Int → Int) (Q : PO → PY → Nat → PC → Prop), (Wp 228 3 [some (pI l0)] [pI x2, pI x1, pI x0] LY nx (h, r, s) Q ↔ Wp 228 4 [some (pI l0)] [pI (pushr x1 x2), pI x0] LY nx (h, r, s) Q)) ∧
  (∀ (l0 : Int) (x0 : Int) (x1 : Int) (nx : Nat) (h r : PF) (s : Int → Int) (Q : PO → PY → Nat → PC → Prop), (Wp 228 4 [some (pI l0)] [pI x1, pI x0] LY nx (h, r, s) Q ↔ Wp 228 7 [some (pI l0)] [pI 1431655765, pI x1, pI x0] LY nx (h, r, s) Q)) ∧
  (∀ (l0 : Int) (x0 : Int) (x1 : Int) (x2 : Int) (nx : Nat) (h r : PF) (s : Int → Int) (Q : PO → PY → Nat → PC → Prop), (Wp 228 7 [some (pI l0)] [pI x2, pI x1, pI x0] LY nx (h, r, s) Q ↔ Wp 228 8 [some (pI l0)] [pI (pand x1 x2), pI x0] LY nx (h, r, s) Q)) ∧
  (∀ (l0 : Int) (x0 : Int) (x1 : Int) (nx : Nat) (h r : PF) (s : Int → Int) (Q : PO → PY → Nat → PC → Prop), (Wp 228 8 [some (pI l0)] [pI x1, pI x0] LY nx (h, r, s) Q ↔ Wp 228 9 [some (pI l0)] [pI (w32 (x0 - x1))] LY nx (h, r, s) Q)) ∧
  (∀ (l0 : Int) (x0 : Int) (nx : Nat) (h r : PF) (s : Int → Int) (Q : PO → PY → Nat → PC → Prop), (Wp 228 9 [some (pI l0)] [pI x0] LY nx (h, r, s) Q ↔ Wp 228 10 [some (pI x0)] [] LY nx (h, r, s) Q)) ∧
  (∀ (l0 : Int) (nx : Nat) (h r : PF) (s : Int → Int) (Q : PO → PY → Nat → PC → Prop), (Wp 228 10 [some (pI l0)] [] LY nx (h, r, s) Q ↔ Wp 228 11 [some (pI l0)] [pI l0] LY nx (h, r, s) Q)) ∧
  (∀ (l0 : Int) (x0 : Int) (nx : Nat) (h r : PF) (s : Int → Int) (Q : PO → PY → Nat → PC → Prop), (Wp 228 11 [some (pI l0)] [pI x0] LY nx (h, r, s) Q ↔ Wp 228 14 [some (pI l0)] [pI 858993459, pI x0] LY nx (h, r, s) Q)) ∧
  (∀ (l0 : Int) (x0 : Int) (x1 : Int) (nx : Nat) (h r : PF) (s : Int → Int) (Q : PO → PY → Nat → PC → Prop), (Wp 228 14 [some (pI l0)] [pI x1, pI x0] LY nx (h, r, s) Q ↔ Wp 228 15 [some (pI l0)] [pI (pand x0 x1)] LY nx (h, r, s) Q)) ∧
  (∀ (l0 : Int) (x0 : Int) (nx : Nat) (h r : PF) (s : Int → Int) (Q : PO → PY → Nat → PC → Prop), (Wp 228 15 [some (pI l0)] [pI x0] LY nx (h, r, s) Q ↔ Wp 228 16 [some (pI l0)] [pI l0, pI x0] LY nx (h, r, s) Q)) ∧
  (∀ (l0 : Int) (x0 : Int) (x1 : Int) (nx : Nat) (h r : PF) (s : Int → Int) (Q : PO → PY → Nat → PC → Prop), (Wp 228 16 [some (pI l0)] [pI x1, pI x0] LY nx (h, r, s) Q ↔ Wp 228 17 [some (pI l0)] [pI 2, pI x1, pI x0] LY nx (h, r, s) Q)) ∧
  (∀ (l0 : Int) (x0 : Int) (x1 : Int) (x2 : Int) (nx : Nat) (h r : PF) (s : Int → Int) (Q : PO → PY → Nat → PC → Prop), (Wp 228 17 [some (pI l0)] [pI x2, pI x1, pI x0] LY nx (h, r, s) Q ↔ Wp 228 18 [some (pI l0)] [pI (pushr x1 x2), pI x0] LY nx (h, r, s) Q)) ∧
  (∀ (l0 : Int) (x0 : Int) (x1 : Int) (nx : Nat) (h r : PF) (s : Int → Int) (Q : PO → PY → Nat → PC → Prop), (Wp 228 18 [some (pI l0)] [pI x1, pI x0] LY nx (h, r, s) Q ↔ Wp 228 21 [some (pI l0)] [pI 858993459, pI x1, pI x0] LY nx (h, r, s) Q)) ∧
  (∀ (l0 : Int) (x0 : Int) (x1 : Int) (x2 : Int) (nx : Nat) (h r : PF) (s : Int → Int) (Q : PO → PY → Nat → PC → Prop), (Wp 228 21 [some (pI l0)] [pI x2, pI x1, pI x0] LY nx (h, r, s) Q ↔ Wp 228 22 [some (pI l0)] [pI (pand x1 x2), pI x0] LY nx (h, r, s) Q)) ∧
  (∀ (l0 : Int) (x0 : Int) (x1 : Int) (nx : Nat) (h r : PF) (s : Int → Int) (Q : PO → PY → Nat → PC → Prop), (Wp 228 22 [some (pI l0)] [pI x1, pI x0] LY nx (h, r, s) Q ↔ Wp 228 23 [some (pI l0)] [pI (w32 (x0 + x1))] LY nx (h, r, s) Q)) ∧
  (∀ (l0 : Int) (x0 : Int) (nx : Nat) (h r : PF) (s : Int → Int) (Q : PO → PY → Nat → PC → Prop), (Wp 228 23 [some (pI l0)] [pI x0] LY nx (h, r, s) Q ↔ Wp 228 24 [some (pI x0)] [] LY nx (h, r, s) Q)) ∧
  (∀ (l0 : Int) (nx : Nat) (h r : PF) (s : Int → Int) (Q : PO → PY → Nat → PC → Prop), (Wp 228 24 [some (pI l0)] [] LY nx (h, r, s) Q ↔ Wp 228 25 [some (pI l0)] [pI l0] LY nx (h, r, s) Q)) ∧
  (∀ (l0 : Int) (x0 : Int) (nx : Nat) (h r : PF) (s : Int → Int) (Q : PO → PY → Nat → PC → Prop), (Wp 228 25 [some (pI l0)] [pI x0] LY nx (h, r, s) Q ↔ Wp 228 26 [some (pI l0)] [pI l0, pI x0] LY nx (h, r, s) Q)) ∧
  (∀ (l0 : Int) (x0 : Int) (x1 : Int) (nx : Nat) (h r : PF) (s : Int → Int) (Q : PO → PY → Nat → PC → Prop), (Wp 228 26 [some (pI l0)] [pI x1, pI x0] LY nx (h, r, s) Q ↔ Wp 228 27 [some (pI l0)] [pI 4, pI x1, pI x0] LY nx (h, r, s) Q)) ∧
  (∀ (l0 : Int) (x0 : Int) (x1 : Int) (x2 : Int) (nx : Nat) (h r : PF) (s : Int → Int) (Q : PO → PY → Nat → PC → Prop), (Wp 228 27 [some (pI l0)] [pI x2, pI x1, pI x0] LY nx (h, r, s) Q ↔ Wp 228 28 [some (pI l0)] [pI (pushr x1 x2), pI x0] LY nx (h, r, s) Q)) ∧
  (∀ (l0 : Int) (x0 : Int) (x1 : Int) (nx : Nat) (h r : PF) (s : Int → Int) (Q : PO → PY → Nat → PC → Prop), (Wp 228 28 [some (pI l0)] [pI x1, pI x0] LY nx (h, r, s) Q ↔ Wp 228 29 [some (pI l0)] [pI (w32 (x0 + x1))] LY nx (h, r, s) Q)) ∧
  (∀ (l0 : Int) (x0 : Int) (nx : Nat) (h r : PF) (s : Int → Int) (Q : PO → PY → Nat → PC → Prop), (Wp 228 29 [some (pI l0)] [pI x0] LY nx (h, r, s) Q ↔ Wp 228 32 [some (pI l0)] [pI 252645135, pI x0] LY nx (h, r, s) Q)) ∧
  (∀ (l0 : Int) (x0 : Int) (x1 : Int) (nx : Nat) (h r : PF) (s : Int → Int) (Q : PO → PY → Nat → PC → Prop), (Wp 228 32 [some (pI l0)] [pI x1, pI x0] LY nx (h, r, s) Q ↔ Wp 228 33 [some (pI l0)] [pI (pand x0 x1)] LY nx (h, r, s) Q)) ∧
  (∀ (l0 : Int) (x0 : Int) (nx : Nat) (h r : PF) (s : Int → Int) (Q : PO → PY → Nat → PC → Prop), (Wp 228 33 [some (pI l0)] [pI x0] LY nx (h, r, s) Q ↔ Wp 228 34 [some (pI x0)] [] LY nx (h, r, s) Q)) ∧
  (∀ (l0 : Int) (nx : Nat) (h r : PF) (s : Int → Int) (Q : PO → PY → Nat → PC → Prop), (Wp 228 34 [some (pI l0)] [] LY nx (h, r, s) Q ↔ Wp 228 35 [some (pI l0)] [pI l0] LY nx (h, r, s) Q)) ∧
  (∀ (l0 : Int) (x0 : Int) (nx : Nat) (h r : PF) (s : Int → Int) (Q : PO → PY → Nat → PC → Prop), (Wp 228 35 [some (pI l0)] [pI x0] LY nx (h, r, s) Q ↔ Wp 228 36 [some (pI l0)] [pI l0, pI x0] LY nx (h, r, s) Q)) ∧
  (∀ (l0 : Int) (x0 : Int) (x1 : Int) (nx : Nat) (h r : PF) (s : Int → Int) (Q : PO → PY → Nat → PC → Prop), (Wp 228 36 [some (pI l0)] [pI x1, pI x0] LY nx (h, r, s) Q ↔ Wp 228 38 [some (pI l0)] [pI 8, pI x1, pI x0] LY nx (h, r, s) Q)) ∧
  (∀ (l0 : Int) (x0 : Int) (x1 : Int) (x2 : Int) (nx : Nat) (h r : PF) (s : Int → Int) (Q : PO → PY → Nat → PC → Prop), (Wp 228 38 [some (pI l0)] [pI x2, pI x1, pI x0] LY nx (h, r, s) Q ↔ Wp 228 39 [some (pI l0)] [pI (pushr x1 x2), pI x0] LY nx (h, r, s) Q)) ∧
  (∀ (l0 : Int) (x0 : Int) (x1 : Int) (nx : Nat) (h r : PF) (s : Int → Int) (Q : PO → PY → Nat → PC → Prop), (Wp 228 39 [some (pI l0)] [pI x1, pI x0] LY nx (h, r, s) Q ↔ Wp 228 40 [some (pI l0)] [pI (w32 (x0 + x1))] LY nx (h, r, s) Q)) ∧
  (∀ (l0 : Int) (x0 : Int) (nx : Nat) (h r : PF) (s : Int → Int) (Q : PO → PY → Nat → PC → Prop), (Wp 228 40 [some (pI l0)] [pI x0] LY nx (h, r, s) Q ↔ Wp 228 41 [some (pI x0)] [] LY nx (h, r, s) Q)) ∧
  (∀ (l0 : Int) (nx : Nat) (h r : PF) (s : Int → Int) (Q : PO → PY → Nat → PC → Prop), (Wp 228 41 [some (pI l0)] [] LY nx (h, r, s) Q ↔ Wp 228 42 [some (pI l0)] [pI l0] LY nx (h, r, s) Q)) ∧
  (∀ (l0 : Int) (x0 : Int) (nx : Nat) (h r : PF) (s : Int → Int) (Q : PO → PY → Nat → PC → Prop), (Wp 228 42 [some (pI l0)] [pI x0] LY nx (h, r, s) Q ↔ Wp 228 43 [some (pI l0)] [pI l0, pI x0] LY nx (h, r, s) Q)) ∧
  (∀ (l0 : Int) (x0 : Int) (x1 : Int) (nx : Nat) (h r : PF) (s : Int → Int) (Q : PO → PY → Nat → PC → Prop), (Wp 228 43 [some (pI l0)] [pI x1, pI x0] LY nx (h, r, s) Q ↔ Wp 228 45 [some (pI l0)] [pI 16, pI x1, pI x0] LY nx (h, r, s) Q)) ∧
  (∀ (l0 : Int) (x0 : Int) (x1 : Int) (x2 : Int) (nx : Nat) (h r : PF) (s : Int → Int) (Q : PO → PY → Nat → PC → Prop), (Wp 228 45 [some (pI l0)] [pI x2, pI x1, pI x0] LY nx (h, r, s) Q ↔ Wp 228 46 [some (pI l0)] [pI (pushr x1 x2), pI x0] LY nx (h, r, s) Q)) ∧
  (∀ (l0 : Int) (x0 : Int) (x1 : Int) (nx : Nat) (h r : PF) (s : Int → Int) (Q : PO → PY → Nat → PC → Prop), (Wp 228 46 [some (pI l0)] [pI x1, pI x0] LY nx (h, r, s) Q ↔ Wp 228 47 [some (pI l0)] [pI (w32 (x0 + x1))] LY nx (h, r, s) Q)) ∧
  (∀ (l0 : Int) (x0 : Int) (nx : Nat) (h r : PF) (s : Int → Int) (Q : PO → PY → Nat → PC → Prop), (Wp 228 47 [some (pI l0)] [pI x0] LY nx (h, r, s) Q ↔ Wp 228 48 [some (pI x0)] [] LY nx (h, r, s) Q)) ∧
  (∀ (l0 : Int) (nx : Nat) (h r : PF) (s : Int → Int) (Q : PO → PY → Nat → PC → Prop), (Wp 228 48 [some (pI l0)] [] LY nx (h, r, s) Q ↔ Wp 228 49 [some (pI l0)] [pI l0] LY nx (h, r, s) Q)) ∧
  (∀ (l0 : Int) (x0 : Int) (nx : Nat) (h r : PF) (s : Int → Int) (Q : PO → PY → Nat → PC → Prop), (Wp 228 49 [some (pI l0)] [pI x0] LY nx (h, r, s) Q ↔ Wp 228 51 [some (pI l0)] [pI 63, pI x0] LY nx (h, r, s) Q)) ∧
  (∀ (l0 : Int) (x0 : Int) (x1 : Int) (nx : Nat) (h r : PF) (s : Int → Int) (Q : PO → PY → Nat → PC → Prop), (Wp 228 51 [some (pI l0)] [pI x1, pI x0] LY nx (h, r, s) Q ↔ Wp 228 52 [some (pI l0)] [pI (pand x0 x1)] LY nx (h, r, s) Q)) ∧
  (∀ (l0 : Int) (x0 : Int) (nx : Nat) (h r : PF) (s : Int → Int) (Q : PO → PY → Nat → PC → Prop), (Wp 228 52 [some (pI l0)] [pI x0] LY nx (h, r, s) Q ↔ Q (Sum.inl (some (pI x0))) LY nx (h, r, s))) :=
  ⟨fun l0 nx h r s Q  => o_iload_n (by decide +kernel : pcode 228 0 = some (6, 0, 0, 0, 0)) rfl,
  fun l0 x0 nx h r s Q  => o_iload_n (by decide +kernel : pcode 228 1 = some (6, 0, 0, 0, 0)) rfl,
  fun l0 x0 x1 nx h r s Q  => o_iconst (by decide +kernel : pcode 228 2 = some (1, 0, 0, 0, 1)),
  fun l0 x0 x1 x2 nx h r s Q  => o_iushr (by decide +kernel : pcode 228 3 = some (28, 0, 0, 0, 0)),
  fun l0 x0 x1 nx h r s Q  => o_ldci (by decide +kernel : pcode 228 4 = some (5, 265, 1025, 0, 1431655765)),
  fun l0 x0 x1 x2 nx h r s Q  => o_iand (by decide +kernel : pcode 228 7 = some (22, 0, 0, 0, 0)),
  fun l0 x0 x1 nx h r s Q  => o_isub (by decide +kernel : pcode 228 8 = some (20, 0, 0, 0, 0)),
  fun l0 x0 nx h r s Q  => o_istore_n (by decide +kernel : pcode 228 9 = some (12, 0, 0, 0, 0)) rfl,
  fun l0 nx h r s Q  => o_iload_n (by decide +kernel : pcode 228 10 = some (6, 0, 0, 0, 0)) rfl,
  fun l0 x0 nx h r s Q  => o_ldci (by decide +kernel : pcode 228 11 = some (5, 266, 1026, 0, 858993459)),
  fun l0 x0 x1 nx h r s Q  => o_iand (by decide +kernel : pcode 228 14 = some (22, 0, 0, 0, 0)),
  fun l0 x0 nx h r s Q  => o_iload_n (by decide +kernel : pcode 228 15 = some (6, 0, 0, 0, 0)) rfl,
  fun l0 x0 x1 nx h r s Q  => o_iconst (by decide +kernel : pcode 228 16 = some (1, 0, 0, 0, 2)),
  fun l0 x0 x1 x2 nx h r s Q  => o_iushr (by decide +kernel : pcode 228 17 = some (28, 0, 0, 0, 0)),
  fun l0 x0 x1 nx h r s Q  => o_ldci (by decide +kernel : pcode 228 18 = some (5, 266, 1026, 0, 858993459)),
  fun l0 x0 x1 x2 nx h r s Q  => o_iand (by decide +kernel : pcode 228 21 = some (22, 0, 0, 0, 0)),
  fun l0 x0 x1 nx h r s Q  => o_iadd (by decide +kernel : pcode 228 22 = some (19, 0, 0, 0, 0)),
  fun l0 x0 nx h r s Q  => o_istore_n (by decide +kernel : pcode 228 23 = some (12, 0, 0, 0, 0)) rfl,
  fun l0 nx h r s Q  => o_iload_n (by decide +kernel : pcode 228 24 = some (6, 0, 0, 0, 0)) rfl,
  fun l0 x0 nx h r s Q  => o_iload_n (by decide +kernel : pcode 228 25 = some (6, 0, 0, 0, 0)) rfl,
  fun l0 x0 x1 nx h r s Q  => o_iconst (by decide +kernel : pcode 228 26 = some (1, 0, 0, 0, 4)),
  fun l0 x0 x1 x2 nx h r s Q  => o_iushr (by decide +kernel : pcode 228 27 = some (28, 0, 0, 0, 0)),
  fun l0 x0 x1 nx h r s Q  => o_iadd (by decide +kernel : pcode 228 28 = some (19, 0, 0, 0, 0)),
  fun l0 x0 nx h r s Q  => o_ldci (by decide +kernel : pcode 228 29 = some (5, 267, 1027, 0, 252645135)),
  fun l0 x0 x1 nx h r s Q  => o_iand (by decide +kernel : pcode 228 32 = some (22, 0, 0, 0, 0)),
  fun l0 x0 nx h r s Q  => o_istore_n (by decide +kernel : pcode 228 33 = some (12, 0, 0, 0, 0)) rfl,
  fun l0 nx h r s Q  => o_iload_n (by decide +kernel : pcode 228 34 = some (6, 0, 0, 0, 0)) rfl,
  fun l0 x0 nx h r s Q  => o_iload_n (by decide +kernel : pcode 228 35 = some (6, 0, 0, 0, 0)) rfl,
  fun l0 x0 x1 nx h r s Q  => o_bipush (by decide +kernel : pcode 228 36 = some (2, 0, 0, 0, 8)),
  fun l0 x0 x1 x2 nx h r s Q  => o_iushr (by decide +kernel : pcode 228 38 = some (28, 0, 0, 0, 0)),
  fun l0 x0 x1 nx h r s Q  => o_iadd (by decide +kernel : pcode 228 39 = some (19, 0, 0, 0, 0)),
  fun l0 x0 nx h r s Q  => o_istore_n (by decide +kernel : pcode 228 40 = some (12, 0, 0, 0, 0)) rfl,
  fun l0 nx h r s Q  => o_iload_n (by decide +kernel : pcode 228 41 = some (6, 0, 0, 0, 0)) rfl,
  fun l0 x0 nx h r s Q  => o_iload_n (by decide +kernel : pcode 228 42 = some (6, 0, 0, 0, 0)) rfl,
  fun l0 x0 x1 nx h r s Q  => o_bipush (by decide +kernel : pcode 228 43 = some (2, 0, 0, 0, 16)),
  fun l0 x0 x1 x2 nx h r s Q  => o_iushr (by decide +kernel : pcode 228 45 = some (28, 0, 0, 0, 0)),
  fun l0 x0 x1 nx h r s Q  => o_iadd (by decide +kernel : pcode 228 46 = some (19, 0, 0, 0, 0)),
  fun l0 x0 nx h r s Q  => o_istore_n (by decide +kernel : pcode 228 47 = some (12, 0, 0, 0, 0)) rfl,
  fun l0 nx h r s Q  => o_iload_n (by decide +kernel : pcode 228 48 = some (6, 0, 0, 0, 0)) rfl,
  fun l0 x0 nx h r s Q  => o_bipush (by decide +kernel : pcode 228 49 = some (2, 0, 0, 0, 63)),
  fun l0 x0 x1 nx h r s Q  => o_iand (by decide +kernel : pcode 228 51 = some (22, 0, 0, 0, 0)),
  fun l0 x0 nx h r s Q  => o_iret (by decide +kernel : pcode 228 52 = some (87, 0, 0, 0, 0))⟩
