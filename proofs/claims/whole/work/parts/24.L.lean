set_option maxHeartbeats 4000000 in
set_option maxRecDepth 10000 in
theorem st_L_parse :
  (∀ (l1 : Int) (nx : Nat) (h r : PF) (s : Int → Int) (Q : PO → PY → Nat → PC → Prop), (Wp 230 0 [some (pR 1), some (pI l1), some (pR 195), none] [] LY nx (h, r, s) Q ↔ Wp 230 1 [some (pR 1), some (pI l1), some (pR 195), none] [pR 195] LY nx (h, r, s) Q)) ∧
  (∀ (l1 : Int) (nx : Nat) (h r : PF) (s : Int → Int) (Q : PO → PY → Nat → PC → Prop), (Wp 230 1 [some (pR 1), some (pI l1), some (pR 195), none] [pR 195] LY nx (h, r, s) Q ↔ Wp 230 2 [some (pR 1), some (pI l1), some (pR 195), none] [pI 0, pR 195] LY nx (h, r, s) Q)) ∧
  (∀ (l1 : Int) (x1 : Int) (nx : Nat) (h r : PF) (s : Int → Int) (Q : PO → PY → Nat → PC → Prop), (Wp 230 2 [some (pR 1), some (pI l1), some (pR 195), none] [pI x1, pR 195] LY nx (h, r, s) Q ↔ Wp 230 3 [some (pR 1), some (pI l1), some (pR 195), none] [pR 1, pI x1, pR 195] LY nx (h, r, s) Q)) ∧
  (∀ (l1 : Int) (x1 : Int) (nx : Nat) (h r : PF) (s : Int → Int) (Q : PO → PY → Nat → PC → Prop), (Wp 230 3 [some (pR 1), some (pI l1), some (pR 195), none] [pR 1, pI x1, pR 195] LY nx (h, r, s) Q ↔ Wp 230 4 [some (pR 1), some (pI l1), some (pR 195), none] [pI l1, pR 1, pI x1, pR 195] LY nx (h, r, s) Q)) ∧
  (∀ (l1 : Int) (x1 : Int) (x3 : Int) (nx : Nat) (h r : PF) (s : Int → Int) (Q : PO → PY → Nat → PC → Prop), (Wp 230 4 [some (pR 1), some (pI l1), some (pR 195), none] [pI x3, pR 1, pI x1, pR 195] LY nx (h, r, s) Q ↔ Wp 85 0 [some (pR 1), some (pI x3), none, none] [] LY nx (h, r, s) (Kc 230 4 [some (pR 1), some (pI l1), some (pR 195), none] 7 [pI x1, pR 195] Q))) ∧
  (∀ (l1 : Int) (x1 : Int) (x2 : Int) (nx : Nat) (h r : PF) (s : Int → Int) (Q : PO → PY → Nat → PC → Prop), (Wp 230 7 [some (pR 1), some (pI l1), some (pR 195), none] [pI x2, pI x1, pR 195] LY nx (h, r, s) Q ↔ Wp 230 8 [some (pR 1), some (pI l1), some (pR 195), none] [pJ x2, pI x1, pR 195] LY nx (h, r, s) Q)) ∧
  (∀ (l1 : Int) (x1 : Int) (x2 : Int) (nx : Nat) (h r : PF) (s : Int → Int) (Q : PO → PY → Nat → PC → Prop), 0 ≤ x1 → x1 < 1 → (Wp 230 8 [some (pR 1), some (pI l1), some (pR 195), none] [pJ x2, pI x1, pR 195] LY nx (h, r, s) Q ↔ Wp 230 9 [some (pR 1), some (pI l1), some (pR 195), none] [] LY nx (fup h 195 x1 x2, r, s) Q)) ∧
  (∀ (l1 : Int) (nx : Nat) (h r : PF) (s : Int → Int) (Q : PO → PY → Nat → PC → Prop), (Wp 230 9 [some (pR 1), some (pI l1), some (pR 195), none] [] LY nx (h, r, s) Q ↔ Wp 230 15 [some (pR 1), some (pI l1), some (pR 195), none] [] LY nx (h, r, s) Q)) ∧
  (∀ (l1 : Int) (nx : Nat) (h r : PF) (s : Int → Int) (Q : PO → PY → Nat → PC → Prop), (Wp 230 12 [some (pR 1), some (pI l1), some (pR 195), none] [pR (-2000)] LY nx (h, r, s) Q ↔ Wp 230 13 [some (pR 1), some (pI l1), some (pR 195), some (pR (-2000))] [] LY nx (h, r, s) Q)) ∧
  (∀ (l1 : Int) (nx : Nat) (h r : PF) (s : Int → Int) (Q : PO → PY → Nat → PC → Prop), (Wp 230 13 [some (pR 1), some (pI l1), some (pR 195), some (pR (-2000))] [] LY nx (h, r, s) Q ↔ Wp 230 14 [some (pR 1), some (pI l1), some (pR 195), some (pR (-2000))] [pI 1] LY nx (h, r, s) Q)) ∧
  (∀ (l1 : Int) (x0 : Int) (nx : Nat) (h r : PF) (s : Int → Int) (Q : PO → PY → Nat → PC → Prop), (Wp 230 14 [some (pR 1), some (pI l1), some (pR 195), some (pR (-2000))] [pI x0] LY nx (h, r, s) Q ↔ Q (Sum.inl (some (pI x0))) LY nx (h, r, s))) ∧
  (∀ (l1 : Int) (nx : Nat) (h r : PF) (s : Int → Int) (Q : PO → PY → Nat → PC → Prop), (Wp 230 15 [some (pR 1), some (pI l1), some (pR 195), none] [] LY nx (h, r, s) Q ↔ Wp 230 16 [some (pR 1), some (pI l1), some (pR 195), none] [pI 0] LY nx (h, r, s) Q)) ∧
  (∀ (l1 : Int) (x0 : Int) (nx : Nat) (h r : PF) (s : Int → Int) (Q : PO → PY → Nat → PC → Prop), (Wp 230 16 [some (pR 1), some (pI l1), some (pR 195), none] [pI x0] LY nx (h, r, s) Q ↔ Q (Sum.inl (some (pI x0))) LY nx (h, r, s))) :=
  ⟨fun l1 nx h r s Q  => o_aload_n (by decide +kernel : pcode 230 0 = some (10, 2, 0, 0, 0)) rfl,
  fun l1 nx h r s Q  => o_iconst (by decide +kernel : pcode 230 1 = some (1, 0, 0, 0, 0)),
  fun l1 x1 nx h r s Q  => o_aload_n (by decide +kernel : pcode 230 2 = some (10, 0, 0, 0, 0)) rfl,
  fun l1 x1 nx h r s Q  => o_iload_n (by decide +kernel : pcode 230 3 = some (6, 1, 0, 0, 0)) rfl,
  fun l1 x1 x3 nx h r s Q  => o_ivV (s1 := [pI x3]) (s2 := [pI x1, pR 195]) (o := 1) (by decide +kernel : pcode 230 4 = some (78, 85, 2, 569, 7)) rfl (Nat.le_of_ble_eq_true rfl) (by decide) (by decide +kernel) rfl rfl rfl,
  fun l1 x1 x2 nx h r s Q  => o_i2l (by decide +kernel : pcode 230 7 = some (35, 0, 0, 0, 0)),
  fun l1 x1 x2 nx h r s Q hi hn => o_last (h := (h, r, s)) (n := 1) (by decide +kernel : pcode 230 8 = some (66, 0, 0, 0, 0)) (by decide) (by decide +kernel) hi hn,
  fun l1 nx h r s Q  => o_goto (by decide +kernel : pcode 230 9 = some (53, 15, 0, 0, 6)),
  fun l1 nx h r s Q  => o_astore_n (by decide +kernel : pcode 230 12 = some (16, 3, 0, 0, 0)) rfl,
  fun l1 nx h r s Q  => o_iconst (by decide +kernel : pcode 230 13 = some (1, 0, 0, 0, 1)),
  fun l1 x0 nx h r s Q  => o_iret (by decide +kernel : pcode 230 14 = some (87, 0, 0, 0, 0)),
  fun l1 nx h r s Q  => o_iconst (by decide +kernel : pcode 230 15 = some (1, 0, 0, 0, 0)),
  fun l1 x0 nx h r s Q  => o_iret (by decide +kernel : pcode 230 16 = some (87, 0, 0, 0, 0))⟩
set_option maxHeartbeats 4000000 in
set_option maxRecDepth 10000 in
theorem st_L_size :
  (∀ (l1 : Int) (nx : Nat) (h r : PF) (s : Int → Int) (Q : PO → PY → Nat → PC → Prop), (Wp 231 0 [some (pR 1), some (pI l1), some (pR 195), none] [] LY nx (h, r, s) Q ↔ Wp 231 1 [some (pR 1), some (pI l1), some (pR 195), none] [pR 195] LY nx (h, r, s) Q)) ∧
  (∀ (l1 : Int) (nx : Nat) (h r : PF) (s : Int → Int) (Q : PO → PY → Nat → PC → Prop), (Wp 231 1 [some (pR 1), some (pI l1), some (pR 195), none] [pR 195] LY nx (h, r, s) Q ↔ Wp 231 2 [some (pR 1), some (pI l1), some (pR 195), none] [pI 0, pR 195] LY nx (h, r, s) Q)) ∧
  (∀ (l1 : Int) (x1 : Int) (nx : Nat) (h r : PF) (s : Int → Int) (Q : PO → PY → Nat → PC → Prop), (Wp 231 2 [some (pR 1), some (pI l1), some (pR 195), none] [pI x1, pR 195] LY nx (h, r, s) Q ↔ Wp 231 3 [some (pR 1), some (pI l1), some (pR 195), none] [pR 1, pI x1, pR 195] LY nx (h, r, s) Q)) ∧
  (∀ (l1 : Int) (x1 : Int) (nx : Nat) (h r : PF) (s : Int → Int) (Q : PO → PY → Nat → PC → Prop), (Wp 231 3 [some (pR 1), some (pI l1), some (pR 195), none] [pR 1, pI x1, pR 195] LY nx (h, r, s) Q ↔ Wp 231 4 [some (pR 1), some (pI l1), some (pR 195), none] [pI l1, pR 1, pI x1, pR 195] LY nx (h, r, s) Q)) ∧
  (∀ (l1 : Int) (x1 : Int) (x3 : Int) (nx : Nat) (h r : PF) (s : Int → Int) (Q : PO → PY → Nat → PC → Prop), (Wp 231 4 [some (pR 1), some (pI l1), some (pR 195), none] [pI x3, pR 1, pI x1, pR 195] LY nx (h, r, s) Q ↔ Wp 87 0 [some (pR 1), some (pI x3)] [] LY nx (h, r, s) (Kc 231 4 [some (pR 1), some (pI l1), some (pR 195), none] 7 [pI x1, pR 195] Q))) ∧
  (∀ (l1 : Int) (x1 : Int) (x2 : Int) (nx : Nat) (h r : PF) (s : Int → Int) (Q : PO → PY → Nat → PC → Prop), (Wp 231 7 [some (pR 1), some (pI l1), some (pR 195), none] [pI x2, pI x1, pR 195] LY nx (h, r, s) Q ↔ Wp 231 8 [some (pR 1), some (pI l1), some (pR 195), none] [pJ x2, pI x1, pR 195] LY nx (h, r, s) Q)) ∧
  (∀ (l1 : Int) (x1 : Int) (x2 : Int) (nx : Nat) (h r : PF) (s : Int → Int) (Q : PO → PY → Nat → PC → Prop), 0 ≤ x1 → x1 < 1 → (Wp 231 8 [some (pR 1), some (pI l1), some (pR 195), none] [pJ x2, pI x1, pR 195] LY nx (h, r, s) Q ↔ Wp 231 9 [some (pR 1), some (pI l1), some (pR 195), none] [] LY nx (fup h 195 x1 x2, r, s) Q)) ∧
  (∀ (l1 : Int) (nx : Nat) (h r : PF) (s : Int → Int) (Q : PO → PY → Nat → PC → Prop), (Wp 231 9 [some (pR 1), some (pI l1), some (pR 195), none] [] LY nx (h, r, s) Q ↔ Wp 231 15 [some (pR 1), some (pI l1), some (pR 195), none] [] LY nx (h, r, s) Q)) ∧
  (∀ (l1 : Int) (nx : Nat) (h r : PF) (s : Int → Int) (Q : PO → PY → Nat → PC → Prop), (Wp 231 12 [some (pR 1), some (pI l1), some (pR 195), none] [pR (-2000)] LY nx (h, r, s) Q ↔ Wp 231 13 [some (pR 1), some (pI l1), some (pR 195), some (pR (-2000))] [] LY nx (h, r, s) Q)) ∧
  (∀ (l1 : Int) (nx : Nat) (h r : PF) (s : Int → Int) (Q : PO → PY → Nat → PC → Prop), (Wp 231 13 [some (pR 1), some (pI l1), some (pR 195), some (pR (-2000))] [] LY nx (h, r, s) Q ↔ Wp 231 14 [some (pR 1), some (pI l1), some (pR 195), some (pR (-2000))] [pI 1] LY nx (h, r, s) Q)) ∧
  (∀ (l1 : Int) (x0 : Int) (nx : Nat) (h r : PF) (s : Int → Int) (Q : PO → PY → Nat → PC → Prop), (Wp 231 14 [some (pR 1), some (pI l1), some (pR 195), some (pR (-2000))] [pI x0] LY nx (h, r, s) Q ↔ Q (Sum.inl (some (pI x0))) LY nx (h, r, s))) ∧
  (∀ (l1 : Int) (nx : Nat) (h r : PF) (s : Int → Int) (Q : PO → PY → Nat → PC → Prop), (Wp 231 15 [some (pR 1), some (pI l1), some (pR 195), none] [] LY nx (h, r, s) Q ↔ Wp 231 16 [some (pR 1), some (pI l1), some (pR 195), none] [pI 0] LY nx (h, r, s) Q)) ∧
  (∀ (l1 : Int) (x0 : Int) (nx : Nat) (h r : PF) (s : Int → Int) (Q : PO → PY → Nat → PC → Prop), (Wp 231 16 [some (pR 1), some (pI l1), some (pR 195), none] [pI x0] LY nx (h, r, s) Q ↔ Q (Sum.inl (some (pI x0))) LY nx (h, r, s))) :=
  ⟨fun l1 nx h r s Q  => o_aload_n (by decide +kernel : pcode 231 0 = some (10, 2, 0, 0, 0)) rfl,
  fun l1 nx h r s Q  => o_iconst (by decide +kernel : pcode 231 1 = some (1, 0, 0, 0, 0)),
  fun l1 x1 nx h r s Q  => o_aload_n (by decide +kernel : pcode 231 2 = some (10, 0, 0, 0, 0)) rfl,
  fun l1 x1 nx h r s Q  => o_iload_n (by decide +kernel : pcode 231 3 = some (6, 1, 0, 0, 0)) rfl,
  fun l1 x1 x3 nx h r s Q  => o_ivV (s1 := [pI x3]) (s2 := [pI x1, pR 195]) (o := 1) (by decide +kernel : pcode 231 4 = some (78, 87, 2, 804, 15)) rfl (Nat.le_of_ble_eq_true rfl) (by decide) (by decide +kernel) rfl rfl rfl,
  fun l1 x1 x2 nx h r s Q  => o_i2l (by decide +kernel : pcode 231 7 = some (35, 0, 0, 0, 0)),
  fun l1 x1 x2 nx h r s Q hi hn => o_last (h := (h, r, s)) (n := 1) (by decide +kernel : pcode 231 8 = some (66, 0, 0, 0, 0)) (by decide) (by decide +kernel) hi hn,
  fun l1 nx h r s Q  => o_goto (by decide +kernel : pcode 231 9 = some (53, 15, 0, 0, 6)),
  fun l1 nx h r s Q  => o_astore_n (by decide +kernel : pcode 231 12 = some (16, 3, 0, 0, 0)) rfl,
  fun l1 nx h r s Q  => o_iconst (by decide +kernel : pcode 231 13 = some (1, 0, 0, 0, 1)),
  fun l1 x0 nx h r s Q  => o_iret (by decide +kernel : pcode 231 14 = some (87, 0, 0, 0, 0)),
  fun l1 nx h r s Q  => o_iconst (by decide +kernel : pcode 231 15 = some (1, 0, 0, 0, 0)),
  fun l1 x0 nx h r s Q  => o_iret (by decide +kernel : pcode 231 16 = some (87, 0, 0, 0, 0))⟩
set_option maxHeartbeats 4000000 in
set_option maxRecDepth 10000 in
theorem st_L_machine :
  (∀ (l1 : Int) (l2 : Int) (nx : Nat) (h r : PF) (s : Int → Int) (Q : PO → PY → Nat → PC → Prop), (Wp 232 0 [some (pR 1), some (pI l1), some (pI l2), some (pR 195), none] [] LY nx (h, r, s) Q ↔ Wp 232 1 [some (pR 1), some (pI l1), some (pI l2), some (pR 195), none] [pR 195] LY nx (h, r, s) Q)) ∧
  (∀ (l1 : Int) (l2 : Int) (nx : Nat) (h r : PF) (s : Int → Int) (Q : PO → PY → Nat → PC → Prop), (Wp 232 1 [some (pR 1), some (pI l1), some (pI l2), some (pR 195), none] [pR 195] LY nx (h, r, s) Q ↔ Wp 232 2 [some (pR 1), some (pI l1), some (pI l2), some (pR 195), none] [pI 0, pR 195] LY nx (h, r, s) Q)) ∧
  (∀ (l1 : Int) (l2 : Int) (x1 : Int) (nx : Nat) (h r : PF) (s : Int → Int) (Q : PO → PY → Nat → PC → Prop), (Wp 232 2 [some (pR 1), some (pI l1), some (pI l2), some (pR 195), none] [pI x1, pR 195] LY nx (h, r, s) Q ↔ Wp 232 3 [some (pR 1), some (pI l1), some (pI l2), some (pR 195), none] [pR 1, pI x1, pR 195] LY nx (h, r, s) Q)) ∧
  (∀ (l1 : Int) (l2 : Int) (x1 : Int) (nx : Nat) (h r : PF) (s : Int → Int) (Q : PO → PY → Nat → PC → Prop), (Wp 232 3 [some (pR 1), some (pI l1), some (pI l2), some (pR 195), none] [pR 1, pI x1, pR 195] LY nx (h, r, s) Q ↔ Wp 232 4 [some (pR 1), some (pI l1), some (pI l2), some (pR 195), none] [pI l1, pR 1, pI x1, pR 195] LY nx (h, r, s) Q)) ∧
  (∀ (l1 : Int) (l2 : Int) (x1 : Int) (x3 : Int) (nx : Nat) (h r : PF) (s : Int → Int) (Q : PO → PY → Nat → PC → Prop), (Wp 232 4 [some (pR 1), some (pI l1), some (pI l2), some (pR 195), none] [pI x3, pR 1, pI x1, pR 195] LY nx (h, r, s) Q ↔ Wp 232 5 [some (pR 1), some (pI l1), some (pI l2), some (pR 195), none] [pI l2, pI x3, pR 1, pI x1, pR 195] LY nx (h, r, s) Q)) ∧
  (∀ (l1 : Int) (l2 : Int) (x1 : Int) (x3 : Int) (x4 : Int) (nx : Nat) (h r : PF) (s : Int → Int) (Q : PO → PY → Nat → PC → Prop), (Wp 232 5 [some (pR 1), some (pI l1), some (pI l2), some (pR 195), none] [pI x4, pI x3, pR 1, pI x1, pR 195] LY nx (h, r, s) Q ↔ Wp 88 0 [some (pR 1), some (pI x3), some (pI x4)] [] LY nx (h, r, s) (Kc 232 5 [some (pR 1), some (pI l1), some (pI l2), some (pR 195), none] 8 [pI x1, pR 195] Q))) ∧
  (∀ (l1 : Int) (l2 : Int) (x1 : Int) (x2 : Int) (nx : Nat) (h r : PF) (s : Int → Int) (Q : PO → PY → Nat → PC → Prop), (Wp 232 8 [some (pR 1), some (pI l1), some (pI l2), some (pR 195), none] [pI x2, pI x1, pR 195] LY nx (h, r, s) Q ↔ Wp 232 9 [some (pR 1), some (pI l1), some (pI l2), some (pR 195), none] [pJ x2, pI x1, pR 195] LY nx (h, r, s) Q)) ∧
  (∀ (l1 : Int) (l2 : Int) (x1 : Int) (x2 : Int) (nx : Nat) (h r : PF) (s : Int → Int) (Q : PO → PY → Nat → PC → Prop), 0 ≤ x1 → x1 < 1 → (Wp 232 9 [some (pR 1), some (pI l1), some (pI l2), some (pR 195), none] [pJ x2, pI x1, pR 195] LY nx (h, r, s) Q ↔ Wp 232 10 [some (pR 1), some (pI l1), some (pI l2), some (pR 195), none] [] LY nx (fup h 195 x1 x2, r, s) Q)) ∧
  (∀ (l1 : Int) (l2 : Int) (nx : Nat) (h r : PF) (s : Int → Int) (Q : PO → PY → Nat → PC → Prop), (Wp 232 10 [some (pR 1), some (pI l1), some (pI l2), some (pR 195), none] [] LY nx (h, r, s) Q ↔ Wp 232 21 [some (pR 1), some (pI l1), some (pI l2), some (pR 195), none] [] LY nx (h, r, s) Q)) ∧
  (∀ (l1 : Int) (l2 : Int) (nx : Nat) (h r : PF) (s : Int → Int) (Q : PO → PY → Nat → PC → Prop), (Wp 232 13 [some (pR 1), some (pI l1), some (pI l2), some (pR 195), none] [pR (-2000)] LY nx (h, r, s) Q ↔ Wp 232 15 [some (pR 1), some (pI l1), some (pI l2), some (pR 195), some (pR (-2000))] [] LY nx (h, r, s) Q)) ∧
  (∀ (l1 : Int) (l2 : Int) (nx : Nat) (h r : PF) (s : Int → Int) (Q : PO → PY → Nat → PC → Prop), (Wp 232 15 [some (pR 1), some (pI l1), some (pI l2), some (pR 195), some (pR (-2000))] [] LY nx (h, r, s) Q ↔ Wp 232 16 [some (pR 1), some (pI l1), some (pI l2), some (pR 195), some (pR (-2000))] [pI 1] LY nx (h, r, s) Q)) ∧
  (∀ (l1 : Int) (l2 : Int) (x0 : Int) (nx : Nat) (h r : PF) (s : Int → Int) (Q : PO → PY → Nat → PC → Prop), (Wp 232 16 [some (pR 1), some (pI l1), some (pI l2), some (pR 195), some (pR (-2000))] [pI x0] LY nx (h, r, s) Q ↔ Q (Sum.inl (some (pI x0))) LY nx (h, r, s))) ∧
  (∀ (l1 : Int) (l2 : Int) (nx : Nat) (h r : PF) (s : Int → Int) (Q : PO → PY → Nat → PC → Prop), (Wp 232 17 [some (pR 1), some (pI l1), some (pI l2), some (pR 195), none] [pR (-2000)] LY nx (h, r, s) Q ↔ Wp 232 19 [some (pR 1), some (pI l1), some (pI l2), some (pR 195), some (pR (-2000))] [] LY nx (h, r, s) Q)) ∧
  (∀ (l1 : Int) (l2 : Int) (nx : Nat) (h r : PF) (s : Int → Int) (Q : PO → PY → Nat → PC → Prop), (Wp 232 19 [some (pR 1), some (pI l1), some (pI l2), some (pR 195), some (pR (-2000))] [] LY nx (h, r, s) Q ↔ Wp 232 20 [some (pR 1), some (pI l1), some (pI l2), some (pR 195), some (pR (-2000))] [pI 2] LY nx (h, r, s) Q)) ∧
  (∀ (l1 : Int) (l2 : Int) (x0 : Int) (nx : Nat) (h r : PF) (s : Int → Int) (Q : PO → PY → Nat → PC → Prop), (Wp 232 20 [some (pR 1), some (pI l1), some (pI l2), some (pR 195), some (pR (-2000))] [pI x0] LY nx (h, r, s) Q ↔ Q (Sum.inl (some (pI x0))) LY nx (h, r, s))) ∧
  (∀ (l1 : Int) (l2 : Int) (nx : Nat) (h r : PF) (s : Int → Int) (Q : PO → PY → Nat → PC → Prop), (Wp 232 21 [some (pR 1), some (pI l1), some (pI l2), some (pR 195), none] [] LY nx (h, r, s) Q ↔ Wp 232 22 [some (pR 1), some (pI l1), some (pI l2), some (pR 195), none] [pI 0] LY nx (h, r, s) Q)) ∧
  (∀ (l1 : Int) (l2 : Int) (x0 : Int) (nx : Nat) (h r : PF) (s : Int → Int) (Q : PO → PY → Nat → PC → Prop), (Wp 232 22 [some (pR 1), some (pI l1), some (pI l2), some (pR 195), none] [pI x0] LY nx (h, r, s) Q ↔ Q (Sum.inl (some (pI x0))) LY nx (h, r, s))) :=
  ⟨fun l1 l2 nx h r s Q  => o_aload_n (by decide +kernel : pcode 232 0 = some (10, 3, 0, 0, 0)) rfl,
  fun l1 l2 nx h r s Q  => o_iconst (by decide +kernel : pcode 232 1 = some (1, 0, 0, 0, 0)),
  fun l1 l2 x1 nx h r s Q  => o_aload_n (by decide +kernel : pcode 232 2 = some (10, 0, 0, 0, 0)) rfl,
  fun l1 l2 x1 nx h r s Q  => o_iload_n (by decide +kernel : pcode 232 3 = some (6, 1, 0, 0, 0)) rfl,
  fun l1 l2 x1 x3 nx h r s Q  => o_iload_n (by decide +kernel : pcode 232 4 = some (6, 2, 0, 0, 0)) rfl,
  fun l1 l2 x1 x3 x4 nx h r s Q  => o_ivV (s1 := [pI x4, pI x3]) (s2 := [pI x1, pR 195]) (o := 1) (by decide +kernel : pcode 232 5 = some (78, 88, 3, 812, 18)) rfl (Nat.le_of_ble_eq_true rfl) (by decide) (by decide +kernel) rfl rfl rfl,
  fun l1 l2 x1 x2 nx h r s Q  => o_i2l (by decide +kernel : pcode 232 8 = some (35, 0, 0, 0, 0)),
  fun l1 l2 x1 x2 nx h r s Q hi hn => o_last (h := (h, r, s)) (n := 1) (by decide +kernel : pcode 232 9 = some (66, 0, 0, 0, 0)) (by decide) (by decide +kernel) hi hn,
  fun l1 l2 nx h r s Q  => o_goto (by decide +kernel : pcode 232 10 = some (53, 21, 0, 0, 11)),
  fun l1 l2 nx h r s Q  => o_astore (by decide +kernel : pcode 232 13 = some (17, 4, 0, 0, 0)) rfl,
  fun l1 l2 nx h r s Q  => o_iconst (by decide +kernel : pcode 232 15 = some (1, 0, 0, 0, 1)),
  fun l1 l2 x0 nx h r s Q  => o_iret (by decide +kernel : pcode 232 16 = some (87, 0, 0, 0, 0)),
  fun l1 l2 nx h r s Q  => o_astore (by decide +kernel : pcode 232 17 = some (17, 4, 0, 0, 0)) rfl,
  fun l1 l2 nx h r s Q  => o_iconst (by decide +kernel : pcode 232 19 = some (1, 0, 0, 0, 2)),
  fun l1 l2 x0 nx h r s Q  => o_iret (by decide +kernel : pcode 232 20 = some (87, 0, 0, 0, 0)),
  fun l1 l2 nx h r s Q  => o_iconst (by decide +kernel : pcode 232 21 = some (1, 0, 0, 0, 0)),
  fun l1 l2 x0 nx h r s Q  => o_iret (by decide +kernel : pcode 232 22 = some (87, 0, 0, 0, 0))⟩
set_option maxHeartbeats 4000000 in
set_option maxRecDepth 10000 in
theorem st_L_strength :
  (∀ (l1 : Int) (l2 : Int) (nx : Nat) (h r : PF) (s : Int → Int) (Q : PO → PY → Nat → PC → Prop), (Wp 233 0 [some (pR 1), some (pI l1), some (pI l2), some (pR 195), none] [] LY nx (h, r, s) Q ↔ Wp 233 1 [some (pR 1), some (pI l1), some (pI l2), some (pR 195), none] [pR 195] LY nx (h, r, s) Q)) ∧
  (∀ (l1 : Int) (l2 : Int) (nx : Nat) (h r : PF) (s : Int → Int) (Q : PO → PY → Nat → PC → Prop), (Wp 233 1 [some (pR 1), some (pI l1), some (pI l2), some (pR 195), none] [pR 195] LY nx (h, r, s) Q ↔ Wp 233 2 [some (pR 1), some (pI l1), some (pI l2), some (pR 195), none] [pI 0, pR 195] LY nx (h, r, s) Q)) ∧
  (∀ (l1 : Int) (l2 : Int) (x1 : Int) (nx : Nat) (h r : PF) (s : Int → Int) (Q : PO → PY → Nat → PC → Prop), (Wp 233 2 [some (pR 1), some (pI l1), some (pI l2), some (pR 195), none] [pI x1, pR 195] LY nx (h, r, s) Q ↔ Wp 233 3 [some (pR 1), some (pI l1), some (pI l2), some (pR 195), none] [pR 1, pI x1, pR 195] LY nx (h, r, s) Q)) ∧
  (∀ (l1 : Int) (l2 : Int) (x1 : Int) (nx : Nat) (h r : PF) (s : Int → Int) (Q : PO → PY → Nat → PC → Prop), (Wp 233 3 [some (pR 1), some (pI l1), some (pI l2), some (pR 195), none] [pR 1, pI x1, pR 195] LY nx (h, r, s) Q ↔ Wp 233 4 [some (pR 1), some (pI l1), some (pI l2), some (pR 195), none] [pI l1, pR 1, pI x1, pR 195] LY nx (h, r, s) Q)) ∧
  (∀ (l1 : Int) (l2 : Int) (x1 : Int) (x3 : Int) (nx : Nat) (h r : PF) (s : Int → Int) (Q : PO → PY → Nat → PC → Prop), (Wp 233 4 [some (pR 1), some (pI l1), some (pI l2), some (pR 195), none] [pI x3, pR 1, pI x1, pR 195] LY nx (h, r, s) Q ↔ Wp 233 5 [some (pR 1), some (pI l1), some (pI l2), some (pR 195), none] [pI l2, pI x3, pR 1, pI x1, pR 195] LY nx (h, r, s) Q)) ∧
  (∀ (l1 : Int) (l2 : Int) (x1 : Int) (x3 : Int) (x4 : Int) (nx : Nat) (h r : PF) (s : Int → Int) (Q : PO → PY → Nat → PC → Prop), (Wp 233 5 [some (pR 1), some (pI l1), some (pI l2), some (pR 195), none] [pI x4, pI x3, pR 1, pI x1, pR 195] LY nx (h, r, s) Q ↔ Wp 89 0 [some (pR 1), some (pI x3), some (pI x4)] [] LY nx (h, r, s) (Kc 233 5 [some (pR 1), some (pI l1), some (pI l2), some (pR 195), none] 8 [pI x1, pR 195] Q))) ∧
  (∀ (l1 : Int) (l2 : Int) (x1 : Int) (x2 : Int) (nx : Nat) (h r : PF) (s : Int → Int) (Q : PO → PY → Nat → PC → Prop), (Wp 233 8 [some (pR 1), some (pI l1), some (pI l2), some (pR 195), none] [pI x2, pI x1, pR 195] LY nx (h, r, s) Q ↔ Wp 233 9 [some (pR 1), some (pI l1), some (pI l2), some (pR 195), none] [pJ x2, pI x1, pR 195] LY nx (h, r, s) Q)) ∧
  (∀ (l1 : Int) (l2 : Int) (x1 : Int) (x2 : Int) (nx : Nat) (h r : PF) (s : Int → Int) (Q : PO → PY → Nat → PC → Prop), 0 ≤ x1 → x1 < 1 → (Wp 233 9 [some (pR 1), some (pI l1), some (pI l2), some (pR 195), none] [pJ x2, pI x1, pR 195] LY nx (h, r, s) Q ↔ Wp 233 10 [some (pR 1), some (pI l1), some (pI l2), some (pR 195), none] [] LY nx (fup h 195 x1 x2, r, s) Q)) ∧
  (∀ (l1 : Int) (l2 : Int) (nx : Nat) (h r : PF) (s : Int → Int) (Q : PO → PY → Nat → PC → Prop), (Wp 233 10 [some (pR 1), some (pI l1), some (pI l2), some (pR 195), none] [] LY nx (h, r, s) Q ↔ Wp 233 17 [some (pR 1), some (pI l1), some (pI l2), some (pR 195), none] [] LY nx (h, r, s) Q)) ∧
  (∀ (l1 : Int) (l2 : Int) (nx : Nat) (h r : PF) (s : Int → Int) (Q : PO → PY → Nat → PC → Prop), (Wp 233 13 [some (pR 1), some (pI l1), some (pI l2), some (pR 195), none] [pR (-2000)] LY nx (h, r, s) Q ↔ Wp 233 15 [some (pR 1), some (pI l1), some (pI l2), some (pR 195), some (pR (-2000))] [] LY nx (h, r, s) Q)) ∧
  (∀ (l1 : Int) (l2 : Int) (nx : Nat) (h r : PF) (s : Int → Int) (Q : PO → PY → Nat → PC → Prop), (Wp 233 15 [some (pR 1), some (pI l1), some (pI l2), some (pR 195), some (pR (-2000))] [] LY nx (h, r, s) Q ↔ Wp 233 16 [some (pR 1), some (pI l1), some (pI l2), some (pR 195), some (pR (-2000))] [pI 1] LY nx (h, r, s) Q)) ∧
  (∀ (l1 : Int) (l2 : Int) (x0 : Int) (nx : Nat) (h r : PF) (s : Int → Int) (Q : PO → PY → Nat → PC → Prop), (Wp 233 16 [some (pR 1), some (pI l1), some (pI l2), some (pR 195), some (pR (-2000))] [pI x0] LY nx (h, r, s) Q ↔ Q (Sum.inl (some (pI x0))) LY nx (h, r, s))) ∧
  (∀ (l1 : Int) (l2 : Int) (nx : Nat) (h r : PF) (s : Int → Int) (Q : PO → PY → Nat → PC → Prop), (Wp 233 17 [some (pR 1), some (pI l1), some (pI l2), some (pR 195), none] [] LY nx (h, r, s) Q ↔ Wp 233 18 [some (pR 1), some (pI l1), some (pI l2), some (pR 195), none] [pI 0] LY nx (h, r, s) Q)) ∧
  (∀ (l1 : Int) (l2 : Int) (x0 : Int) (nx : Nat) (h r : PF) (s : Int → Int) (Q : PO → PY → Nat → PC → Prop), (Wp 233 18 [some (pR 1), some (pI l1), some (pI l2), some (pR 195), none] [pI x0] LY nx (h, r, s) Q ↔ Q (Sum.inl (some (pI x0))) LY nx (h, r, s))) :=
  ⟨fun l1 l2 nx h r s Q  => o_aload_n (by decide +kernel : pcode 233 0 = some (10, 3, 0, 0, 0)) rfl,
  fun l1 l2 nx h r s Q  => o_iconst (by decide +kernel : pcode 233 1 = some (1, 0, 0, 0, 0)),
  fun l1 l2 x1 nx h r s Q  => o_aload_n (by decide +kernel : pcode 233 2 = some (10, 0, 0, 0, 0)) rfl,
  fun l1 l2 x1 nx h r s Q  => o_iload_n (by decide +kernel : pcode 233 3 = some (6, 1, 0, 0, 0)) rfl,
  fun l1 l2 x1 x3 nx h r s Q  => o_iload_n (by decide +kernel : pcode 233 4 = some (6, 2, 0, 0, 0)) rfl,
  fun l1 l2 x1 x3 x4 nx h r s Q  => o_ivV (s1 := [pI x4, pI x3]) (s2 := [pI x1, pR 195]) (o := 1) (by decide +kernel : pcode 233 5 = some (78, 89, 3, 842, 24)) rfl (Nat.le_of_ble_eq_true rfl) (by decide) (by decide +kernel) rfl rfl rfl,
  fun l1 l2 x1 x2 nx h r s Q  => o_i2l (by decide +kernel : pcode 233 8 = some (35, 0, 0, 0, 0)),
  fun l1 l2 x1 x2 nx h r s Q hi hn => o_last (h := (h, r, s)) (n := 1) (by decide +kernel : pcode 233 9 = some (66, 0, 0, 0, 0)) (by decide) (by decide +kernel) hi hn,
  fun l1 l2 nx h r s Q  => o_goto (by decide +kernel : pcode 233 10 = some (53, 17, 0, 0, 7)),
  fun l1 l2 nx h r s Q  => o_astore (by decide +kernel : pcode 233 13 = some (17, 4, 0, 0, 0)) rfl,
  fun l1 l2 nx h r s Q  => o_iconst (by decide +kernel : pcode 233 15 = some (1, 0, 0, 0, 1)),
  fun l1 l2 x0 nx h r s Q  => o_iret (by decide +kernel : pcode 233 16 = some (87, 0, 0, 0, 0)),
  fun l1 l2 nx h r s Q  => o_iconst (by decide +kernel : pcode 233 17 = some (1, 0, 0, 0, 0)),
  fun l1 l2 x0 nx h r s Q  => o_iret (by decide +kernel : pcode 233 18 = some (87, 0, 0, 0, 0))⟩
set_option maxHeartbeats 4000000 in
set_option maxRecDepth 10000 in
theorem st_L_isAccepting :
  (∀ (l1 : Int) (l2 : Int) (nx : Nat) (h r : PF) (s : Int → Int) (Q : PO → PY → Nat → PC → Prop), (Wp 234 0 [some (pR 1), some (pI l1), some (pI l2), some (pR 195), none] [] LY nx (h, r, s) Q ↔ Wp 234 1 [some (pR 1), some (pI l1), some (pI l2), some (pR 195), none] [pR 195] LY nx (h, r, s) Q)) ∧
  (∀ (l1 : Int) (l2 : Int) (nx : Nat) (h r : PF) (s : Int → Int) (Q : PO → PY → Nat → PC → Prop), (Wp 234 1 [some (pR 1), some (pI l1), some (pI l2), some (pR 195), none] [pR 195] LY nx (h, r, s) Q ↔ Wp 234 2 [some (pR 1), some (pI l1), some (pI l2), some (pR 195), none] [pI 0, pR 195] LY nx (h, r, s) Q)) ∧
  (∀ (l1 : Int) (l2 : Int) (x1 : Int) (nx : Nat) (h r : PF) (s : Int → Int) (Q : PO → PY → Nat → PC → Prop), (Wp 234 2 [some (pR 1), some (pI l1), some (pI l2), some (pR 195), none] [pI x1, pR 195] LY nx (h, r, s) Q ↔ Wp 234 3 [some (pR 1), some (pI l1), some (pI l2), some (pR 195), none] [pR 1, pI x1, pR 195] LY nx (h, r, s) Q)) ∧
  (∀ (l1 : Int) (l2 : Int) (x1 : Int) (nx : Nat) (h r : PF) (s : Int → Int) (Q : PO → PY → Nat → PC → Prop), (Wp 234 3 [some (pR 1), some (pI l1), some (pI l2), some (pR 195), none] [pR 1, pI x1, pR 195] LY nx (h, r, s) Q ↔ Wp 234 4 [some (pR 1), some (pI l1), some (pI l2), some (pR 195), none] [pI l1, pR 1, pI x1, pR 195] LY nx (h, r, s) Q)) ∧
  (∀ (l1 : Int) (l2 : Int) (x1 : Int) (x3 : Int) (nx : Nat) (h r : PF) (s : Int → Int) (Q : PO → PY → Nat → PC → Prop), (Wp 234 4 [some (pR 1), some (pI l1), some (pI l2), some (pR 195), none] [pI x3, pR 1, pI x1, pR 195] LY nx (h, r, s) Q ↔ Wp 234 5 [some (pR 1), some (pI l1), some (pI l2), some (pR 195), none] [pI l2, pI x3, pR 1, pI x1, pR 195] LY nx (h, r, s) Q)) ∧
  (∀ (l1 : Int) (l2 : Int) (x1 : Int) (x3 : Int) (x4 : Int) (nx : Nat) (h r : PF) (s : Int → Int) (Q : PO → PY → Nat → PC → Prop), (Wp 234 5 [some (pR 1), some (pI l1), some (pI l2), some (pR 195), none] [pI x4, pI x3, pR 1, pI x1, pR 195] LY nx (h, r, s) Q ↔ Wp 90 0 [some (pR 1), some (pI x3), some (pI x4)] [] LY nx (h, r, s) (Kc 234 5 [some (pR 1), some (pI l1), some (pI l2), some (pR 195), none] 8 [pI x1, pR 195] Q))) ∧
  (∀ (l1 : Int) (l2 : Int) (x1 : Int) (x2 : Int) (nx : Nat) (h r : PF) (s : Int → Int) (Q : PO → PY → Nat → PC → Prop), (Wp 234 8 [some (pR 1), some (pI l1), some (pI l2), some (pR 195), none] [pI x2, pI x1, pR 195] LY nx (h, r, s) Q ↔ (if x2 = 0 then Wp 234 15 [some (pR 1), some (pI l1), some (pI l2), some (pR 195), none] [pI x1, pR 195] LY nx (h, r, s) Q else Wp 234 11 [some (pR 1), some (pI l1), some (pI l2), some (pR 195), none] [pI x1, pR 195] LY nx (h, r, s) Q))) ∧
  (∀ (l1 : Int) (l2 : Int) (x1 : Int) (nx : Nat) (h r : PF) (s : Int → Int) (Q : PO → PY → Nat → PC → Prop), (Wp 234 11 [some (pR 1), some (pI l1), some (pI l2), some (pR 195), none] [pI x1, pR 195] LY nx (h, r, s) Q ↔ Wp 234 12 [some (pR 1), some (pI l1), some (pI l2), some (pR 195), none] [pJ 1, pI x1, pR 195] LY nx (h, r, s) Q)) ∧
  (∀ (l1 : Int) (l2 : Int) (x1 : Int) (x2 : Int) (nx : Nat) (h r : PF) (s : Int → Int) (Q : PO → PY → Nat → PC → Prop), (Wp 234 12 [some (pR 1), some (pI l1), some (pI l2), some (pR 195), none] [pJ x2, pI x1, pR 195] LY nx (h, r, s) Q ↔ Wp 234 16 [some (pR 1), some (pI l1), some (pI l2), some (pR 195), none] [pJ x2, pI x1, pR 195] LY nx (h, r, s) Q)) ∧
  (∀ (l1 : Int) (l2 : Int) (x1 : Int) (nx : Nat) (h r : PF) (s : Int → Int) (Q : PO → PY → Nat → PC → Prop), (Wp 234 15 [some (pR 1), some (pI l1), some (pI l2), some (pR 195), none] [pI x1, pR 195] LY nx (h, r, s) Q ↔ Wp 234 16 [some (pR 1), some (pI l1), some (pI l2), some (pR 195), none] [pJ 0, pI x1, pR 195] LY nx (h, r, s) Q)) ∧
  (∀ (l1 : Int) (l2 : Int) (x1 : Int) (x2 : Int) (nx : Nat) (h r : PF) (s : Int → Int) (Q : PO → PY → Nat → PC → Prop), 0 ≤ x1 → x1 < 1 → (Wp 234 16 [some (pR 1), some (pI l1), some (pI l2), some (pR 195), none] [pJ x2, pI x1, pR 195] LY nx (h, r, s) Q ↔ Wp 234 17 [some (pR 1), some (pI l1), some (pI l2), some (pR 195), none] [] LY nx (fup h 195 x1 x2, r, s) Q)) ∧
  (∀ (l1 : Int) (l2 : Int) (nx : Nat) (h r : PF) (s : Int → Int) (Q : PO → PY → Nat → PC → Prop), (Wp 234 17 [some (pR 1), some (pI l1), some (pI l2), some (pR 195), none] [] LY nx (h, r, s) Q ↔ Wp 234 24 [some (pR 1), some (pI l1), some (pI l2), some (pR 195), none] [] LY nx (h, r, s) Q)) ∧
  (∀ (l1 : Int) (l2 : Int) (nx : Nat) (h r : PF) (s : Int → Int) (Q : PO → PY → Nat → PC → Prop), (Wp 234 20 [some (pR 1), some (pI l1), some (pI l2), some (pR 195), none] [pR (-2000)] LY nx (h, r, s) Q ↔ Wp 234 22 [some (pR 1), some (pI l1), some (pI l2), some (pR 195), some (pR (-2000))] [] LY nx (h, r, s) Q)) ∧
  (∀ (l1 : Int) (l2 : Int) (nx : Nat) (h r : PF) (s : Int → Int) (Q : PO → PY → Nat → PC → Prop), (Wp 234 22 [some (pR 1), some (pI l1), some (pI l2), some (pR 195), some (pR (-2000))] [] LY nx (h, r, s) Q ↔ Wp 234 23 [some (pR 1), some (pI l1), some (pI l2), some (pR 195), some (pR (-2000))] [pI 1] LY nx (h, r, s) Q)) ∧
  (∀ (l1 : Int) (l2 : Int) (x0 : Int) (nx : Nat) (h r : PF) (s : Int → Int) (Q : PO → PY → Nat → PC → Prop), (Wp 234 23 [some (pR 1), some (pI l1), some (pI l2), some (pR 195), some (pR (-2000))] [pI x0] LY nx (h, r, s) Q ↔ Q (Sum.inl (some (pI x0))) LY nx (h, r, s))) ∧
  (∀ (l1 : Int) (l2 : Int) (nx : Nat) (h r : PF) (s : Int → Int) (Q : PO → PY → Nat → PC → Prop), (Wp 234 24 [some (pR 1), some (pI l1), some (pI l2), some (pR 195), none] [] LY nx (h, r, s) Q ↔ Wp 234 25 [some (pR 1), some (pI l1), some (pI l2), some (pR 195), none] [pI 0] LY nx (h, r, s) Q)) ∧
  (∀ (l1 : Int) (l2 : Int) (x0 : Int) (nx : Nat) (h r : PF) (s : Int → Int) (Q : PO → PY → Nat → PC → Prop), (Wp 234 25 [some (pR 1), some (pI l1), some (pI l2), some (pR 195), none] [pI x0] LY nx (h, r, s) Q ↔ Q (Sum.inl (some (pI x0))) LY nx (h, r, s))) :=
  ⟨fun l1 l2 nx h r s Q  => o_aload_n (by decide +kernel : pcode 234 0 = some (10, 3, 0, 0, 0)) rfl,
  fun l1 l2 nx h r s Q  => o_iconst (by decide +kernel : pcode 234 1 = some (1, 0, 0, 0, 0)),
  fun l1 l2 x1 nx h r s Q  => o_aload_n (by decide +kernel : pcode 234 2 = some (10, 0, 0, 0, 0)) rfl,
  fun l1 l2 x1 nx h r s Q  => o_iload_n (by decide +kernel : pcode 234 3 = some (6, 1, 0, 0, 0)) rfl,
  fun l1 l2 x1 x3 nx h r s Q  => o_iload_n (by decide +kernel : pcode 234 4 = some (6, 2, 0, 0, 0)) rfl,
  fun l1 l2 x1 x3 x4 nx h r s Q  => o_ivV (s1 := [pI x4, pI x3]) (s2 := [pI x1, pR 195]) (o := 1) (by decide +kernel : pcode 234 5 = some (78, 90, 3, 853, 27)) rfl (Nat.le_of_ble_eq_true rfl) (by decide) (by decide +kernel) rfl rfl rfl,
  fun l1 l2 x1 x2 nx h r s Q  => o_if_eq (by decide +kernel : pcode 234 8 = some (41, 15, 0, 0, 7)),
  fun l1 l2 x1 nx h r s Q  => o_lconst (by decide +kernel : pcode 234 11 = some (4, 0, 0, 0, 1)),
  fun l1 l2 x1 x2 nx h r s Q  => o_goto (by decide +kernel : pcode 234 12 = some (53, 16, 0, 0, 4)),
  fun l1 l2 x1 nx h r s Q  => o_lconst (by decide +kernel : pcode 234 15 = some (4, 0, 0, 0, 0)),
  fun l1 l2 x1 x2 nx h r s Q hi hn => o_last (h := (h, r, s)) (n := 1) (by decide +kernel : pcode 234 16 = some (66, 0, 0, 0, 0)) (by decide) (by decide +kernel) hi hn,
  fun l1 l2 nx h r s Q  => o_goto (by decide +kernel : pcode 234 17 = some (53, 24, 0, 0, 7)),
  fun l1 l2 nx h r s Q  => o_astore (by decide +kernel : pcode 234 20 = some (17, 4, 0, 0, 0)) rfl,
  fun l1 l2 nx h r s Q  => o_iconst (by decide +kernel : pcode 234 22 = some (1, 0, 0, 0, 1)),
  fun l1 l2 x0 nx h r s Q  => o_iret (by decide +kernel : pcode 234 23 = some (87, 0, 0, 0, 0)),
  fun l1 l2 nx h r s Q  => o_iconst (by decide +kernel : pcode 234 24 = some (1, 0, 0, 0, 0)),
  fun l1 l2 x0 nx h r s Q  => o_iret (by decide +kernel : pcode 234 25 = some (87, 0, 0, 0, 0))⟩
set_option maxHeartbeats 4000000 in
set_option maxRecDepth 10000 in
theorem st_L_goes :
  (∀ (l1 : Int) (l2 : Int) (l3 : Int) (nx : Nat) (h r : PF) (s : Int → Int) (Q : PO → PY → Nat → PC → Prop), (Wp 235 0 [some (pR 1), some (pI l1), some (pI l2), some (pI l3), some (pR 195), none] [] LY nx (h, r, s) Q ↔ Wp 235 2 [some (pR 1), some (pI l1), some (pI l2), some (pI l3), some (pR 195), none] [pR 195] LY nx (h, r, s) Q)) ∧
  (∀ (l1 : Int) (l2 : Int) (l3 : Int) (nx : Nat) (h r : PF) (s : Int → Int) (Q : PO → PY → Nat → PC → Prop), (Wp 235 2 [some (pR 1), some (pI l1), some (pI l2), some (pI l3), some (pR 195), none] [pR 195] LY nx (h, r, s) Q ↔ Wp 235 3 [some (pR 1), some (pI l1), some (pI l2), some (pI l3), some (pR 195), none] [pI 0, pR 195] LY nx (h, r, s) Q)) ∧
  (∀ (l1 : Int) (l2 : Int) (l3 : Int) (x1 : Int) (nx : Nat) (h r : PF) (s : Int → Int) (Q : PO → PY → Nat → PC → Prop), (Wp 235 3 [some (pR 1), some (pI l1), some (pI l2), some (pI l3), some (pR 195), none] [pI x1, pR 195] LY nx (h, r, s) Q ↔ Wp 235 4 [some (pR 1), some (pI l1), some (pI l2), some (pI l3), some (pR 195), none] [pR 1, pI x1, pR 195] LY nx (h, r, s) Q)) ∧
  (∀ (l1 : Int) (l2 : Int) (l3 : Int) (x1 : Int) (nx : Nat) (h r : PF) (s : Int → Int) (Q : PO → PY → Nat → PC → Prop), (Wp 235 4 [some (pR 1), some (pI l1), some (pI l2), some (pI l3), some (pR 195), none] [pR 1, pI x1, pR 195] LY nx (h, r, s) Q ↔ Wp 235 5 [some (pR 1), some (pI l1), some (pI l2), some (pI l3), some (pR 195), none] [pI l1, pR 1, pI x1, pR 195] LY nx (h, r, s) Q)) ∧
  (∀ (l1 : Int) (l2 : Int) (l3 : Int) (x1 : Int) (x3 : Int) (nx : Nat) (h r : PF) (s : Int → Int) (Q : PO → PY → Nat → PC → Prop), (Wp 235 5 [some (pR 1), some (pI l1), some (pI l2), some (pI l3), some (pR 195), none] [pI x3, pR 1, pI x1, pR 195] LY nx (h, r, s) Q ↔ Wp 235 6 [some (pR 1), some (pI l1), some (pI l2), some (pI l3), some (pR 195), none] [pI l2, pI x3, pR 1, pI x1, pR 195] LY nx (h, r, s) Q)) ∧
  (∀ (l1 : Int) (l2 : Int) (l3 : Int) (x1 : Int) (x3 : Int) (x4 : Int) (nx : Nat) (h r : PF) (s : Int → Int) (Q : PO → PY → Nat → PC → Prop), (Wp 235 6 [some (pR 1), some (pI l1), some (pI l2), some (pI l3), some (pR 195), none] [pI x4, pI x3, pR 1, pI x1, pR 195] LY nx (h, r, s) Q ↔ Wp 235 7 [some (pR 1), some (pI l1), some (pI l2), some (pI l3), some (pR 195), none] [pI l3, pI x4, pI x3, pR 1, pI x1, pR 195] LY nx (h, r, s) Q)) ∧
  (∀ (l1 : Int) (l2 : Int) (l3 : Int) (x1 : Int) (x3 : Int) (x4 : Int) (x5 : Int) (nx : Nat) (h r : PF) (s : Int → Int) (Q : PO → PY → Nat → PC → Prop), (Wp 235 7 [some (pR 1), some (pI l1), some (pI l2), some (pI l3), some (pR 195), none] [pI x5, pI x4, pI x3, pR 1, pI x1, pR 195] LY nx (h, r, s) Q ↔ Wp 91 0 [some (pR 1), some (pI x3), some (pI x4), some (pI x5)] [] LY nx (h, r, s) (Kc 235 7 [some (pR 1), some (pI l1), some (pI l2), some (pI l3), some (pR 195), none] 10 [pI x1, pR 195] Q))) ∧
  (∀ (l1 : Int) (l2 : Int) (l3 : Int) (x1 : Int) (x2 : Int) (nx : Nat) (h r : PF) (s : Int → Int) (Q : PO → PY → Nat → PC → Prop), (Wp 235 10 [some (pR 1), some (pI l1), some (pI l2), some (pI l3), some (pR 195), none] [pI x2, pI x1, pR 195] LY nx (h, r, s) Q ↔ Wp 235 11 [some (pR 1), some (pI l1), some (pI l2), some (pI l3), some (pR 195), none] [pJ x2, pI x1, pR 195] LY nx (h, r, s) Q)) ∧
  (∀ (l1 : Int) (l2 : Int) (l3 : Int) (x1 : Int) (x2 : Int) (nx : Nat) (h r : PF) (s : Int → Int) (Q : PO → PY → Nat → PC → Prop), 0 ≤ x1 → x1 < 1 → (Wp 235 11 [some (pR 1), some (pI l1), some (pI l2), some (pI l3), some (pR 195), none] [pJ x2, pI x1, pR 195] LY nx (h, r, s) Q ↔ Wp 235 12 [some (pR 1), some (pI l1), some (pI l2), some (pI l3), some (pR 195), none] [] LY nx (fup h 195 x1 x2, r, s) Q)) ∧
  (∀ (l1 : Int) (l2 : Int) (l3 : Int) (nx : Nat) (h r : PF) (s : Int → Int) (Q : PO → PY → Nat → PC → Prop), (Wp 235 12 [some (pR 1), some (pI l1), some (pI l2), some (pI l3), some (pR 195), none] [] LY nx (h, r, s) Q ↔ Wp 235 19 [some (pR 1), some (pI l1), some (pI l2), some (pI l3), some (pR 195), none] [] LY nx (h, r, s) Q)) ∧
  (∀ (l1 : Int) (l2 : Int) (l3 : Int) (nx : Nat) (h r : PF) (s : Int → Int) (Q : PO → PY → Nat → PC → Prop), (Wp 235 15 [some (pR 1), some (pI l1), some (pI l2), some (pI l3), some (pR 195), none] [pR (-2000)] LY nx (h, r, s) Q ↔ Wp 235 17 [some (pR 1), some (pI l1), some (pI l2), some (pI l3), some (pR 195), some (pR (-2000))] [] LY nx (h, r, s) Q)) ∧
  (∀ (l1 : Int) (l2 : Int) (l3 : Int) (nx : Nat) (h r : PF) (s : Int → Int) (Q : PO → PY → Nat → PC → Prop), (Wp 235 17 [some (pR 1), some (pI l1), some (pI l2), some (pI l3), some (pR 195), some (pR (-2000))] [] LY nx (h, r, s) Q ↔ Wp 235 18 [some (pR 1), some (pI l1), some (pI l2), some (pI l3), some (pR 195), some (pR (-2000))] [pI 1] LY nx (h, r, s) Q)) ∧
  (∀ (l1 : Int) (l2 : Int) (l3 : Int) (x0 : Int) (nx : Nat) (h r : PF) (s : Int → Int) (Q : PO → PY → Nat → PC → Prop), (Wp 235 18 [some (pR 1), some (pI l1), some (pI l2), some (pI l3), some (pR 195), some (pR (-2000))] [pI x0] LY nx (h, r, s) Q ↔ Q (Sum.inl (some (pI x0))) LY nx (h, r, s))) ∧
  (∀ (l1 : Int) (l2 : Int) (l3 : Int) (nx : Nat) (h r : PF) (s : Int → Int) (Q : PO → PY → Nat → PC → Prop), (Wp 235 19 [some (pR 1), some (pI l1), some (pI l2), some (pI l3), some (pR 195), none] [] LY nx (h, r, s) Q ↔ Wp 235 20 [some (pR 1), some (pI l1), some (pI l2), some (pI l3), some (pR 195), none] [pI 0] LY nx (h, r, s) Q)) ∧
  (∀ (l1 : Int) (l2 : Int) (l3 : Int) (x0 : Int) (nx : Nat) (h r : PF) (s : Int → Int) (Q : PO → PY → Nat → PC → Prop), (Wp 235 20 [some (pR 1), some (pI l1), some (pI l2), some (pI l3), some (pR 195), none] [pI x0] LY nx (h, r, s) Q ↔ Q (Sum.inl (some (pI x0))) LY nx (h, r, s))) :=
  ⟨fun l1 l2 l3 nx h r s Q  => o_aload (by decide +kernel : pcode 235 0 = some (11, 4, 0, 0, 0)) rfl,
  fun l1 l2 l3 nx h r s Q  => o_iconst (by decide +kernel : pcode 235 2 = some (1, 0, 0, 0, 0)),
  fun l1 l2 l3 x1 nx h r s Q  => o_aload_n (by decide +kernel : pcode 235 3 = some (10, 0, 0, 0, 0)) rfl,
  fun l1 l2 l3 x1 nx h r s Q  => o_iload_n (by decide +kernel : pcode 235 4 = some (6, 1, 0, 0, 0)) rfl,
  fun l1 l2 l3 x1 x3 nx h r s Q  => o_iload_n (by decide +kernel : pcode 235 5 = some (6, 2, 0, 0, 0)) rfl,
  fun l1 l2 l3 x1 x3 x4 nx h r s Q  => o_iload_n (by decide +kernel : pcode 235 6 = some (6, 3, 0, 0, 0)) rfl,
  fun l1 l2 l3 x1 x3 x4 x5 nx h r s Q  => o_ivV (s1 := [pI x5, pI x4, pI x3]) (s2 := [pI x1, pR 195]) (o := 1) (by decide +kernel : pcode 235 7 = some (78, 91, 4, 861, 31)) rfl (Nat.le_of_ble_eq_true rfl) (by decide) (by decide +kernel) rfl rfl rfl,
  fun l1 l2 l3 x1 x2 nx h r s Q  => o_i2l (by decide +kernel : pcode 235 10 = some (35, 0, 0, 0, 0)),
  fun l1 l2 l3 x1 x2 nx h r s Q hi hn => o_last (h := (h, r, s)) (n := 1) (by decide +kernel : pcode 235 11 = some (66, 0, 0, 0, 0)) (by decide) (by decide +kernel) hi hn,
  fun l1 l2 l3 nx h r s Q  => o_goto (by decide +kernel : pcode 235 12 = some (53, 19, 0, 0, 7)),
  fun l1 l2 l3 nx h r s Q  => o_astore (by decide +kernel : pcode 235 15 = some (17, 5, 0, 0, 0)) rfl,
  fun l1 l2 l3 nx h r s Q  => o_iconst (by decide +kernel : pcode 235 17 = some (1, 0, 0, 0, 1)),
  fun l1 l2 l3 x0 nx h r s Q  => o_iret (by decide +kernel : pcode 235 18 = some (87, 0, 0, 0, 0)),
  fun l1 l2 l3 nx h r s Q  => o_iconst (by decide +kernel : pcode 235 19 = some (1, 0, 0, 0, 0)),
  fun l1 l2 l3 x0 nx h r s Q  => o_iret (by decide +kernel : pcode 235 20 = some (87, 0, 0, 0, 0))⟩
set_option maxHeartbeats 4000000 in
set_option maxRecDepth 10000 in
theorem st_L_distance :
  (∀ (l1 : Int) (l2 : Int) (nx : Nat) (h r : PF) (s : Int → Int) (Q : PO → PY → Nat → PC → Prop), (Wp 236 0 [some (pR 1), some (pI l1), some (pI l2), some (pR 195), none] [] LY nx (h, r, s) Q ↔ Wp 236 1 [some (pR 1), some (pI l1), some (pI l2), some (pR 195), none] [pR 195] LY nx (h, r, s) Q)) ∧
  (∀ (l1 : Int) (l2 : Int) (nx : Nat) (h r : PF) (s : Int → Int) (Q : PO → PY → Nat → PC → Prop), (Wp 236 1 [some (pR 1), some (pI l1), some (pI l2), some (pR 195), none] [pR 195] LY nx (h, r, s) Q ↔ Wp 236 2 [some (pR 1), some (pI l1), some (pI l2), some (pR 195), none] [pI 0, pR 195] LY nx (h, r, s) Q)) ∧
  (∀ (l1 : Int) (l2 : Int) (x1 : Int) (nx : Nat) (h r : PF) (s : Int → Int) (Q : PO → PY → Nat → PC → Prop), (Wp 236 2 [some (pR 1), some (pI l1), some (pI l2), some (pR 195), none] [pI x1, pR 195] LY nx (h, r, s) Q ↔ Wp 236 3 [some (pR 1), some (pI l1), some (pI l2), some (pR 195), none] [pR 1, pI x1, pR 195] LY nx (h, r, s) Q)) ∧
  (∀ (l1 : Int) (l2 : Int) (x1 : Int) (nx : Nat) (h r : PF) (s : Int → Int) (Q : PO → PY → Nat → PC → Prop), (Wp 236 3 [some (pR 1), some (pI l1), some (pI l2), some (pR 195), none] [pR 1, pI x1, pR 195] LY nx (h, r, s) Q ↔ Wp 236 4 [some (pR 1), some (pI l1), some (pI l2), some (pR 195), none] [pI l1, pR 1, pI x1, pR 195] LY nx (h, r, s) Q)) ∧
  (∀ (l1 : Int) (l2 : Int) (x1 : Int) (x3 : Int) (nx : Nat) (h r : PF) (s : Int → Int) (Q : PO → PY → Nat → PC → Prop), (Wp 236 4 [some (pR 1), some (pI l1), some (pI l2), some (pR 195), none] [pI x3, pR 1, pI x1, pR 195] LY nx (h, r, s) Q ↔ Wp 236 5 [some (pR 1), some (pI l1), some (pI l2), some (pR 195), none] [pI l2, pI x3, pR 1, pI x1, pR 195] LY nx (h, r, s) Q)) ∧
  (∀ (l1 : Int) (l2 : Int) (x1 : Int) (x3 : Int) (x4 : Int) (nx : Nat) (h r : PF) (s : Int → Int) (Q : PO → PY → Nat → PC → Prop), (Wp 236 5 [some (pR 1), some (pI l1), some (pI l2), some (pR 195), none] [pI x4, pI x3, pR 1, pI x1, pR 195] LY nx (h, r, s) Q ↔ Wp 92 0 [some (pR 1), some (pI x3), some (pI x4)] [] LY nx (h, r, s) (Kc 236 5 [some (pR 1), some (pI l1), some (pI l2), some (pR 195), none] 8 [pI x1, pR 195] Q))) ∧
  (∀ (l1 : Int) (l2 : Int) (x1 : Int) (x2 : Int) (nx : Nat) (h r : PF) (s : Int → Int) (Q : PO → PY → Nat → PC → Prop), (Wp 236 8 [some (pR 1), some (pI l1), some (pI l2), some (pR 195), none] [pI x2, pI x1, pR 195] LY nx (h, r, s) Q ↔ Wp 236 9 [some (pR 1), some (pI l1), some (pI l2), some (pR 195), none] [pJ x2, pI x1, pR 195] LY nx (h, r, s) Q)) ∧
  (∀ (l1 : Int) (l2 : Int) (x1 : Int) (x2 : Int) (nx : Nat) (h r : PF) (s : Int → Int) (Q : PO → PY → Nat → PC → Prop), 0 ≤ x1 → x1 < 1 → (Wp 236 9 [some (pR 1), some (pI l1), some (pI l2), some (pR 195), none] [pJ x2, pI x1, pR 195] LY nx (h, r, s) Q ↔ Wp 236 10 [some (pR 1), some (pI l1), some (pI l2), some (pR 195), none] [] LY nx (fup h 195 x1 x2, r, s) Q)) ∧
  (∀ (l1 : Int) (l2 : Int) (nx : Nat) (h r : PF) (s : Int → Int) (Q : PO → PY → Nat → PC → Prop), (Wp 236 10 [some (pR 1), some (pI l1), some (pI l2), some (pR 195), none] [] LY nx (h, r, s) Q ↔ Wp 236 17 [some (pR 1), some (pI l1), some (pI l2), some (pR 195), none] [] LY nx (h, r, s) Q)) ∧
  (∀ (l1 : Int) (l2 : Int) (nx : Nat) (h r : PF) (s : Int → Int) (Q : PO → PY → Nat → PC → Prop), (Wp 236 13 [some (pR 1), some (pI l1), some (pI l2), some (pR 195), none] [pR (-2000)] LY nx (h, r, s) Q ↔ Wp 236 15 [some (pR 1), some (pI l1), some (pI l2), some (pR 195), some (pR (-2000))] [] LY nx (h, r, s) Q)) ∧
  (∀ (l1 : Int) (l2 : Int) (nx : Nat) (h r : PF) (s : Int → Int) (Q : PO → PY → Nat → PC → Prop), (Wp 236 15 [some (pR 1), some (pI l1), some (pI l2), some (pR 195), some (pR (-2000))] [] LY nx (h, r, s) Q ↔ Wp 236 16 [some (pR 1), some (pI l1), some (pI l2), some (pR 195), some (pR (-2000))] [pI 1] LY nx (h, r, s) Q)) ∧
  (∀ (l1 : Int) (l2 : Int) (x0 : Int) (nx : Nat) (h r : PF) (s : Int → Int) (Q : PO → PY → Nat → PC → Prop), (Wp 236 16 [some (pR 1), some (pI l1), some (pI l2), some (pR 195), some (pR (-2000))] [pI x0] LY nx (h, r, s) Q ↔ Q (Sum.inl (some (pI x0))) LY nx (h, r, s))) ∧
  (∀ (l1 : Int) (l2 : Int) (nx : Nat) (h r : PF) (s : Int → Int) (Q : PO → PY → Nat → PC → Prop), (Wp 236 17 [some (pR 1), some (pI l1), some (pI l2), some (pR 195), none] [] LY nx (h, r, s) Q ↔ Wp 236 18 [some (pR 1), some (pI l1), some (pI l2), some (pR 195), none] [pI 0] LY nx (h, r, s) Q)) ∧
  (∀ (l1 : Int) (l2 : Int) (x0 : Int) (nx : Nat) (h r : PF) (s : Int → Int) (Q : PO → PY → Nat → PC → Prop), (Wp 236 18 [some (pR 1), some (pI l1), some (pI l2), some (pR 195), none] [pI x0] LY nx (h, r, s) Q ↔ Q (Sum.inl (some (pI x0))) LY nx (h, r, s))) :=
  ⟨fun l1 l2 nx h r s Q  => o_aload_n (by decide +kernel : pcode 236 0 = some (10, 3, 0, 0, 0)) rfl,
  fun l1 l2 nx h r s Q  => o_iconst (by decide +kernel : pcode 236 1 = some (1, 0, 0, 0, 0)),
  fun l1 l2 x1 nx h r s Q  => o_aload_n (by decide +kernel : pcode 236 2 = some (10, 0, 0, 0, 0)) rfl,
  fun l1 l2 x1 nx h r s Q  => o_iload_n (by decide +kernel : pcode 236 3 = some (6, 1, 0, 0, 0)) rfl,
  fun l1 l2 x1 x3 nx h r s Q  => o_iload_n (by decide +kernel : pcode 236 4 = some (6, 2, 0, 0, 0)) rfl,
  fun l1 l2 x1 x3 x4 nx h r s Q  => o_ivV (s1 := [pI x4, pI x3]) (s2 := [pI x1, pR 195]) (o := 1) (by decide +kernel : pcode 236 5 = some (78, 92, 3, 873, 35)) rfl (Nat.le_of_ble_eq_true rfl) (by decide) (by decide +kernel) rfl rfl rfl,
  fun l1 l2 x1 x2 nx h r s Q  => o_i2l (by decide +kernel : pcode 236 8 = some (35, 0, 0, 0, 0)),
  fun l1 l2 x1 x2 nx h r s Q hi hn => o_last (h := (h, r, s)) (n := 1) (by decide +kernel : pcode 236 9 = some (66, 0, 0, 0, 0)) (by decide) (by decide +kernel) hi hn,
  fun l1 l2 nx h r s Q  => o_goto (by decide +kernel : pcode 236 10 = some (53, 17, 0, 0, 7)),
  fun l1 l2 nx h r s Q  => o_astore (by decide +kernel : pcode 236 13 = some (17, 4, 0, 0, 0)) rfl,
  fun l1 l2 nx h r s Q  => o_iconst (by decide +kernel : pcode 236 15 = some (1, 0, 0, 0, 1)),
  fun l1 l2 x0 nx h r s Q  => o_iret (by decide +kernel : pcode 236 16 = some (87, 0, 0, 0, 0)),
  fun l1 l2 nx h r s Q  => o_iconst (by decide +kernel : pcode 236 17 = some (1, 0, 0, 0, 0)),
  fun l1 l2 x0 nx h r s Q  => o_iret (by decide +kernel : pcode 236 18 = some (87, 0, 0, 0, 0))⟩
set_option maxHeartbeats 4000000 in
set_option maxRecDepth 10000 in
theorem st_L_whyNotBid :
  (∀ (l1 : Int) (l2 : Int) (nx : Nat) (h r : PF) (s : Int → Int) (Q : PO → PY → Nat → PC → Prop), (Wp 237 0 [some (pR 1), some (pI l1), some (pI l2), some (pR 195), none] [] LY nx (h, r, s) Q ↔ Wp 237 1 [some (pR 1), some (pI l1), some (pI l2), some (pR 195), none] [pR 195] LY nx (h, r, s) Q)) ∧
  (∀ (l1 : Int) (l2 : Int) (nx : Nat) (h r : PF) (s : Int → Int) (Q : PO → PY → Nat → PC → Prop), (Wp 237 1 [some (pR 1), some (pI l1), some (pI l2), some (pR 195), none] [pR 195] LY nx (h, r, s) Q ↔ Wp 237 2 [some (pR 1), some (pI l1), some (pI l2), some (pR 195), none] [pI 0, pR 195] LY nx (h, r, s) Q)) ∧
  (∀ (l1 : Int) (l2 : Int) (x1 : Int) (nx : Nat) (h r : PF) (s : Int → Int) (Q : PO → PY → Nat → PC → Prop), (Wp 237 2 [some (pR 1), some (pI l1), some (pI l2), some (pR 195), none] [pI x1, pR 195] LY nx (h, r, s) Q ↔ Wp 237 3 [some (pR 1), some (pI l1), some (pI l2), some (pR 195), none] [pR 1, pI x1, pR 195] LY nx (h, r, s) Q)) ∧
  (∀ (l1 : Int) (l2 : Int) (x1 : Int) (nx : Nat) (h r : PF) (s : Int → Int) (Q : PO → PY → Nat → PC → Prop), (Wp 237 3 [some (pR 1), some (pI l1), some (pI l2), some (pR 195), none] [pR 1, pI x1, pR 195] LY nx (h, r, s) Q ↔ Wp 237 4 [some (pR 1), some (pI l1), some (pI l2), some (pR 195), none] [pI l1, pR 1, pI x1, pR 195] LY nx (h, r, s) Q)) ∧
  (∀ (l1 : Int) (l2 : Int) (x1 : Int) (x3 : Int) (nx : Nat) (h r : PF) (s : Int → Int) (Q : PO → PY → Nat → PC → Prop), (Wp 237 4 [some (pR 1), some (pI l1), some (pI l2), some (pR 195), none] [pI x3, pR 1, pI x1, pR 195] LY nx (h, r, s) Q ↔ Wp 237 5 [some (pR 1), some (pI l1), some (pI l2), some (pR 195), none] [pI l2, pI x3, pR 1, pI x1, pR 195] LY nx (h, r, s) Q)) ∧
  (∀ (l1 : Int) (l2 : Int) (x1 : Int) (x3 : Int) (x4 : Int) (nx : Nat) (h r : PF) (s : Int → Int) (Q : PO → PY → Nat → PC → Prop), (Wp 237 5 [some (pR 1), some (pI l1), some (pI l2), some (pR 195), none] [pI x4, pI x3, pR 1, pI x1, pR 195] LY nx (h, r, s) Q ↔ Wp 93 0 [some (pR 1), some (pI x3), some (pI x4)] [] LY nx (h, r, s) (Kc 237 5 [some (pR 1), some (pI l1), some (pI l2), some (pR 195), none] 8 [pI x1, pR 195] Q))) ∧
  (∀ (l1 : Int) (l2 : Int) (x1 : Int) (x2 : Int) (nx : Nat) (h r : PF) (s : Int → Int) (Q : PO → PY → Nat → PC → Prop), (Wp 237 8 [some (pR 1), some (pI l1), some (pI l2), some (pR 195), none] [pI x2, pI x1, pR 195] LY nx (h, r, s) Q ↔ Wp 237 9 [some (pR 1), some (pI l1), some (pI l2), some (pR 195), none] [pJ x2, pI x1, pR 195] LY nx (h, r, s) Q)) ∧
  (∀ (l1 : Int) (l2 : Int) (x1 : Int) (x2 : Int) (nx : Nat) (h r : PF) (s : Int → Int) (Q : PO → PY → Nat → PC → Prop), 0 ≤ x1 → x1 < 1 → (Wp 237 9 [some (pR 1), some (pI l1), some (pI l2), some (pR 195), none] [pJ x2, pI x1, pR 195] LY nx (h, r, s) Q ↔ Wp 237 10 [some (pR 1), some (pI l1), some (pI l2), some (pR 195), none] [] LY nx (fup h 195 x1 x2, r, s) Q)) ∧
  (∀ (l1 : Int) (l2 : Int) (nx : Nat) (h r : PF) (s : Int → Int) (Q : PO → PY → Nat → PC → Prop), (Wp 237 10 [some (pR 1), some (pI l1), some (pI l2), some (pR 195), none] [] LY nx (h, r, s) Q ↔ Wp 237 17 [some (pR 1), some (pI l1), some (pI l2), some (pR 195), none] [] LY nx (h, r, s) Q)) ∧
  (∀ (l1 : Int) (l2 : Int) (nx : Nat) (h r : PF) (s : Int → Int) (Q : PO → PY → Nat → PC → Prop), (Wp 237 13 [some (pR 1), some (pI l1), some (pI l2), some (pR 195), none] [pR (-2000)] LY nx (h, r, s) Q ↔ Wp 237 15 [some (pR 1), some (pI l1), some (pI l2), some (pR 195), some (pR (-2000))] [] LY nx (h, r, s) Q)) ∧
  (∀ (l1 : Int) (l2 : Int) (nx : Nat) (h r : PF) (s : Int → Int) (Q : PO → PY → Nat → PC → Prop), (Wp 237 15 [some (pR 1), some (pI l1), some (pI l2), some (pR 195), some (pR (-2000))] [] LY nx (h, r, s) Q ↔ Wp 237 16 [some (pR 1), some (pI l1), some (pI l2), some (pR 195), some (pR (-2000))] [pI 1] LY nx (h, r, s) Q)) ∧
  (∀ (l1 : Int) (l2 : Int) (x0 : Int) (nx : Nat) (h r : PF) (s : Int → Int) (Q : PO → PY → Nat → PC → Prop), (Wp 237 16 [some (pR 1), some (pI l1), some (pI l2), some (pR 195), some (pR (-2000))] [pI x0] LY nx (h, r, s) Q ↔ Q (Sum.inl (some (pI x0))) LY nx (h, r, s))) ∧
  (∀ (l1 : Int) (l2 : Int) (nx : Nat) (h r : PF) (s : Int → Int) (Q : PO → PY → Nat → PC → Prop), (Wp 237 17 [some (pR 1), some (pI l1), some (pI l2), some (pR 195), none] [] LY nx (h, r, s) Q ↔ Wp 237 18 [some (pR 1), some (pI l1), some (pI l2), some (pR 195), none] [pI 0] LY nx (h, r, s) Q)) ∧
  (∀ (l1 : Int) (l2 : Int) (x0 : Int) (nx : Nat) (h r : PF) (s : Int → Int) (Q : PO → PY → Nat → PC → Prop), (Wp 237 18 [some (pR 1), some (pI l1), some (pI l2), some (pR 195), none] [pI x0] LY nx (h, r, s) Q ↔ Q (Sum.inl (some (pI x0))) LY nx (h, r, s))) :=
  ⟨fun l1 l2 nx h r s Q  => o_aload_n (by decide +kernel : pcode 237 0 = some (10, 3, 0, 0, 0)) rfl,
  fun l1 l2 nx h r s Q  => o_iconst (by decide +kernel : pcode 237 1 = some (1, 0, 0, 0, 0)),
  fun l1 l2 x1 nx h r s Q  => o_aload_n (by decide +kernel : pcode 237 2 = some (10, 0, 0, 0, 0)) rfl,
  fun l1 l2 x1 nx h r s Q  => o_iload_n (by decide +kernel : pcode 237 3 = some (6, 1, 0, 0, 0)) rfl,
  fun l1 l2 x1 x3 nx h r s Q  => o_iload_n (by decide +kernel : pcode 237 4 = some (6, 2, 0, 0, 0)) rfl,
  fun l1 l2 x1 x3 x4 nx h r s Q  => o_ivV (s1 := [pI x4, pI x3]) (s2 := [pI x1, pR 195]) (o := 1) (by decide +kernel : pcode 237 5 = some (78, 93, 3, 881, 38)) rfl (Nat.le_of_ble_eq_true rfl) (by decide) (by decide +kernel) rfl rfl rfl,
  fun l1 l2 x1 x2 nx h r s Q  => o_i2l (by decide +kernel : pcode 237 8 = some (35, 0, 0, 0, 0)),
  fun l1 l2 x1 x2 nx h r s Q hi hn => o_last (h := (h, r, s)) (n := 1) (by decide +kernel : pcode 237 9 = some (66, 0, 0, 0, 0)) (by decide) (by decide +kernel) hi hn,
  fun l1 l2 nx h r s Q  => o_goto (by decide +kernel : pcode 237 10 = some (53, 17, 0, 0, 7)),
  fun l1 l2 nx h r s Q  => o_astore (by decide +kernel : pcode 237 13 = some (17, 4, 0, 0, 0)) rfl,
  fun l1 l2 nx h r s Q  => o_iconst (by decide +kernel : pcode 237 15 = some (1, 0, 0, 0, 1)),
  fun l1 l2 x0 nx h r s Q  => o_iret (by decide +kernel : pcode 237 16 = some (87, 0, 0, 0, 0)),
  fun l1 l2 nx h r s Q  => o_iconst (by decide +kernel : pcode 237 17 = some (1, 0, 0, 0, 0)),
  fun l1 l2 x0 nx h r s Q  => o_iret (by decide +kernel : pcode 237 18 = some (87, 0, 0, 0, 0))⟩
set_option maxHeartbeats 4000000 in
set_option maxRecDepth 10000 in
theorem st_L_bidLetter :
  (∀ (l1 : Int) (nx : Nat) (h r : PF) (s : Int → Int) (Q : PO → PY → Nat → PC → Prop), (Wp 238 0 [some (pR 1), some (pI l1), some (pR 195), none] [] LY nx (h, r, s) Q ↔ Wp 238 1 [some (pR 1), some (pI l1), some (pR 195), none] [pR 195] LY nx (h, r, s) Q)) ∧
  (∀ (l1 : Int) (nx : Nat) (h r : PF) (s : Int → Int) (Q : PO → PY → Nat → PC → Prop), (Wp 238 1 [some (pR 1), some (pI l1), some (pR 195), none] [pR 195] LY nx (h, r, s) Q ↔ Wp 238 2 [some (pR 1), some (pI l1), some (pR 195), none] [pI 0, pR 195] LY nx (h, r, s) Q)) ∧
  (∀ (l1 : Int) (x1 : Int) (nx : Nat) (h r : PF) (s : Int → Int) (Q : PO → PY → Nat → PC → Prop), (Wp 238 2 [some (pR 1), some (pI l1), some (pR 195), none] [pI x1, pR 195] LY nx (h, r, s) Q ↔ Wp 238 3 [some (pR 1), some (pI l1), some (pR 195), none] [pR 1, pI x1, pR 195] LY nx (h, r, s) Q)) ∧
  (∀ (l1 : Int) (x1 : Int) (nx : Nat) (h r : PF) (s : Int → Int) (Q : PO → PY → Nat → PC → Prop), (Wp 238 3 [some (pR 1), some (pI l1), some (pR 195), none] [pR 1, pI x1, pR 195] LY nx (h, r, s) Q ↔ Wp 238 4 [some (pR 1), some (pI l1), some (pR 195), none] [pI l1, pR 1, pI x1, pR 195] LY nx (h, r, s) Q)) ∧
  (∀ (l1 : Int) (x1 : Int) (x3 : Int) (nx : Nat) (h r : PF) (s : Int → Int) (Q : PO → PY → Nat → PC → Prop), (Wp 238 4 [some (pR 1), some (pI l1), some (pR 195), none] [pI x3, pR 1, pI x1, pR 195] LY nx (h, r, s) Q ↔ Wp 94 0 [some (pR 1), some (pI x3)] [] LY nx (h, r, s) (Kc 238 4 [some (pR 1), some (pI l1), some (pR 195), none] 7 [pI x1, pR 195] Q))) ∧
  (∀ (l1 : Int) (x1 : Int) (x2 : Int) (nx : Nat) (h r : PF) (s : Int → Int) (Q : PO → PY → Nat → PC → Prop), (Wp 238 7 [some (pR 1), some (pI l1), some (pR 195), none] [pI x2, pI x1, pR 195] LY nx (h, r, s) Q ↔ Wp 238 8 [some (pR 1), some (pI l1), some (pR 195), none] [pJ x2, pI x1, pR 195] LY nx (h, r, s) Q)) ∧
  (∀ (l1 : Int) (x1 : Int) (x2 : Int) (nx : Nat) (h r : PF) (s : Int → Int) (Q : PO → PY → Nat → PC → Prop), 0 ≤ x1 → x1 < 1 → (Wp 238 8 [some (pR 1), some (pI l1), some (pR 195), none] [pJ x2, pI x1, pR 195] LY nx (h, r, s) Q ↔ Wp 238 9 [some (pR 1), some (pI l1), some (pR 195), none] [] LY nx (fup h 195 x1 x2, r, s) Q)) ∧
  (∀ (l1 : Int) (nx : Nat) (h r : PF) (s : Int → Int) (Q : PO → PY → Nat → PC → Prop), (Wp 238 9 [some (pR 1), some (pI l1), some (pR 195), none] [] LY nx (h, r, s) Q ↔ Wp 238 15 [some (pR 1), some (pI l1), some (pR 195), none] [] LY nx (h, r, s) Q)) ∧
  (∀ (l1 : Int) (nx : Nat) (h r : PF) (s : Int → Int) (Q : PO → PY → Nat → PC → Prop), (Wp 238 12 [some (pR 1), some (pI l1), some (pR 195), none] [pR (-2000)] LY nx (h, r, s) Q ↔ Wp 238 13 [some (pR 1), some (pI l1), some (pR 195), some (pR (-2000))] [] LY nx (h, r, s) Q)) ∧
  (∀ (l1 : Int) (nx : Nat) (h r : PF) (s : Int → Int) (Q : PO → PY → Nat → PC → Prop), (Wp 238 13 [some (pR 1), some (pI l1), some (pR 195), some (pR (-2000))] [] LY nx (h, r, s) Q ↔ Wp 238 14 [some (pR 1), some (pI l1), some (pR 195), some (pR (-2000))] [pI 1] LY nx (h, r, s) Q)) ∧
  (∀ (l1 : Int) (x0 : Int) (nx : Nat) (h r : PF) (s : Int → Int) (Q : PO → PY → Nat → PC → Prop), (Wp 238 14 [some (pR 1), some (pI l1), some (pR 195), some (pR (-2000))] [pI x0] LY nx (h, r, s) Q ↔ Q (Sum.inl (some (pI x0))) LY nx (h, r, s))) ∧
  (∀ (l1 : Int) (nx : Nat) (h r : PF) (s : Int → Int) (Q : PO → PY → Nat → PC → Prop), (Wp 238 15 [some (pR 1), some (pI l1), some (pR 195), none] [] LY nx (h, r, s) Q ↔ Wp 238 16 [some (pR 1), some (pI l1), some (pR 195), none] [pI 0] LY nx (h, r, s) Q)) ∧
  (∀ (l1 : Int) (x0 : Int) (nx : Nat) (h r : PF) (s : Int → Int) (Q : PO → PY → Nat → PC → Prop), (Wp 238 16 [some (pR 1), some (pI l1), some (pR 195), none] [pI x0] LY nx (h, r, s) Q ↔ Q (Sum.inl (some (pI x0))) LY nx (h, r, s))) :=
  ⟨fun l1 nx h r s Q  => o_aload_n (by decide +kernel : pcode 238 0 = some (10, 2, 0, 0, 0)) rfl,
  fun l1 nx h r s Q  => o_iconst (by decide +kernel : pcode 238 1 = some (1, 0, 0, 0, 0)),
  fun l1 x1 nx h r s Q  => o_aload_n (by decide +kernel : pcode 238 2 = some (10, 0, 0, 0, 0)) rfl,
  fun l1 x1 nx h r s Q  => o_iload_n (by decide +kernel : pcode 238 3 = some (6, 1, 0, 0, 0)) rfl,
  fun l1 x1 x3 nx h r s Q  => o_ivV (s1 := [pI x3]) (s2 := [pI x1, pR 195]) (o := 1) (by decide +kernel : pcode 238 4 = some (78, 94, 2, 892, 41)) rfl (Nat.le_of_ble_eq_true rfl) (by decide) (by decide +kernel) rfl rfl rfl,
  fun l1 x1 x2 nx h r s Q  => o_i2l (by decide +kernel : pcode 238 7 = some (35, 0, 0, 0, 0)),
  fun l1 x1 x2 nx h r s Q hi hn => o_last (h := (h, r, s)) (n := 1) (by decide +kernel : pcode 238 8 = some (66, 0, 0, 0, 0)) (by decide) (by decide +kernel) hi hn,
  fun l1 nx h r s Q  => o_goto (by decide +kernel : pcode 238 9 = some (53, 15, 0, 0, 6)),
  fun l1 nx h r s Q  => o_astore_n (by decide +kernel : pcode 238 12 = some (16, 3, 0, 0, 0)) rfl,
  fun l1 nx h r s Q  => o_iconst (by decide +kernel : pcode 238 13 = some (1, 0, 0, 0, 1)),
  fun l1 x0 nx h r s Q  => o_iret (by decide +kernel : pcode 238 14 = some (87, 0, 0, 0, 0)),
  fun l1 nx h r s Q  => o_iconst (by decide +kernel : pcode 238 15 = some (1, 0, 0, 0, 0)),
  fun l1 x0 nx h r s Q  => o_iret (by decide +kernel : pcode 238 16 = some (87, 0, 0, 0, 0))⟩
set_option maxHeartbeats 4000000 in
set_option maxRecDepth 10000 in
theorem st_L_bid :
  (∀ (l1 : Int) (nx : Nat) (h r : PF) (s : Int → Int) (Q : PO → PY → Nat → PC → Prop), (Wp 239 0 [some (pR 1), some (pI l1), some (pR 195), none] [] LY nx (h, r, s) Q ↔ Wp 239 1 [some (pR 1), some (pI l1), some (pR 195), none] [pR 195] LY nx (h, r, s) Q)) ∧
  (∀ (l1 : Int) (nx : Nat) (h r : PF) (s : Int → Int) (Q : PO → PY → Nat → PC → Prop), (Wp 239 1 [some (pR 1), some (pI l1), some (pR 195), none] [pR 195] LY nx (h, r, s) Q ↔ Wp 239 2 [some (pR 1), some (pI l1), some (pR 195), none] [pI 0, pR 195] LY nx (h, r, s) Q)) ∧
  (∀ (l1 : Int) (x1 : Int) (nx : Nat) (h r : PF) (s : Int → Int) (Q : PO → PY → Nat → PC → Prop), (Wp 239 2 [some (pR 1), some (pI l1), some (pR 195), none] [pI x1, pR 195] LY nx (h, r, s) Q ↔ Wp 239 3 [some (pR 1), some (pI l1), some (pR 195), none] [pR 1, pI x1, pR 195] LY nx (h, r, s) Q)) ∧
  (∀ (l1 : Int) (x1 : Int) (nx : Nat) (h r : PF) (s : Int → Int) (Q : PO → PY → Nat → PC → Prop), (Wp 239 3 [some (pR 1), some (pI l1), some (pR 195), none] [pR 1, pI x1, pR 195] LY nx (h, r, s) Q ↔ Wp 239 4 [some (pR 1), some (pI l1), some (pR 195), none] [pI l1, pR 1, pI x1, pR 195] LY nx (h, r, s) Q)) ∧
  (∀ (l1 : Int) (x1 : Int) (x3 : Int) (nx : Nat) (h r : PF) (s : Int → Int) (Q : PO → PY → Nat → PC → Prop), (Wp 239 4 [some (pR 1), some (pI l1), some (pR 195), none] [pI x3, pR 1, pI x1, pR 195] LY nx (h, r, s) Q ↔ Wp 95 0 [some (pR 1), some (pI x3)] [] LY nx (h, r, s) (Kc 239 4 [some (pR 1), some (pI l1), some (pR 195), none] 7 [pI x1, pR 195] Q))) ∧
  (∀ (l1 : Int) (x1 : Int) (x2 : Int) (nx : Nat) (h r : PF) (s : Int → Int) (Q : PO → PY → Nat → PC → Prop), (Wp 239 7 [some (pR 1), some (pI l1), some (pR 195), none] [pI x2, pI x1, pR 195] LY nx (h, r, s) Q ↔ Wp 239 8 [some (pR 1), some (pI l1), some (pR 195), none] [pJ x2, pI x1, pR 195] LY nx (h, r, s) Q)) ∧
  (∀ (l1 : Int) (x1 : Int) (x2 : Int) (nx : Nat) (h r : PF) (s : Int → Int) (Q : PO → PY → Nat → PC → Prop), 0 ≤ x1 → x1 < 1 → (Wp 239 8 [some (pR 1), some (pI l1), some (pR 195), none] [pJ x2, pI x1, pR 195] LY nx (h, r, s) Q ↔ Wp 239 9 [some (pR 1), some (pI l1), some (pR 195), none] [] LY nx (fup h 195 x1 x2, r, s) Q)) ∧
  (∀ (l1 : Int) (nx : Nat) (h r : PF) (s : Int → Int) (Q : PO → PY → Nat → PC → Prop), (Wp 239 9 [some (pR 1), some (pI l1), some (pR 195), none] [] LY nx (h, r, s) Q ↔ Wp 239 15 [some (pR 1), some (pI l1), some (pR 195), none] [] LY nx (h, r, s) Q)) ∧
  (∀ (l1 : Int) (nx : Nat) (h r : PF) (s : Int → Int) (Q : PO → PY → Nat → PC → Prop), (Wp 239 12 [some (pR 1), some (pI l1), some (pR 195), none] [pR (-2000)] LY nx (h, r, s) Q ↔ Wp 239 13 [some (pR 1), some (pI l1), some (pR 195), some (pR (-2000))] [] LY nx (h, r, s) Q)) ∧
  (∀ (l1 : Int) (nx : Nat) (h r : PF) (s : Int → Int) (Q : PO → PY → Nat → PC → Prop), (Wp 239 13 [some (pR 1), some (pI l1), some (pR 195), some (pR (-2000))] [] LY nx (h, r, s) Q ↔ Wp 239 14 [some (pR 1), some (pI l1), some (pR 195), some (pR (-2000))] [pI 1] LY nx (h, r, s) Q)) ∧
  (∀ (l1 : Int) (x0 : Int) (nx : Nat) (h r : PF) (s : Int → Int) (Q : PO → PY → Nat → PC → Prop), (Wp 239 14 [some (pR 1), some (pI l1), some (pR 195), some (pR (-2000))] [pI x0] LY nx (h, r, s) Q ↔ Q (Sum.inl (some (pI x0))) LY nx (h, r, s))) ∧
  (∀ (l1 : Int) (nx : Nat) (h r : PF) (s : Int → Int) (Q : PO → PY → Nat → PC → Prop), (Wp 239 15 [some (pR 1), some (pI l1), some (pR 195), none] [] LY nx (h, r, s) Q ↔ Wp 239 16 [some (pR 1), some (pI l1), some (pR 195), none] [pI 0] LY nx (h, r, s) Q)) ∧
  (∀ (l1 : Int) (x0 : Int) (nx : Nat) (h r : PF) (s : Int → Int) (Q : PO → PY → Nat → PC → Prop), (Wp 239 16 [some (pR 1), some (pI l1), some (pR 195), none] [pI x0] LY nx (h, r, s) Q ↔ Q (Sum.inl (some (pI x0))) LY nx (h, r, s))) :=
  ⟨fun l1 nx h r s Q  => o_aload_n (by decide +kernel : pcode 239 0 = some (10, 2, 0, 0, 0)) rfl,
  fun l1 nx h r s Q  => o_iconst (by decide +kernel : pcode 239 1 = some (1, 0, 0, 0, 0)),
  fun l1 x1 nx h r s Q  => o_aload_n (by decide +kernel : pcode 239 2 = some (10, 0, 0, 0, 0)) rfl,
  fun l1 x1 nx h r s Q  => o_iload_n (by decide +kernel : pcode 239 3 = some (6, 1, 0, 0, 0)) rfl,
  fun l1 x1 x3 nx h r s Q  => o_ivV (s1 := [pI x3]) (s2 := [pI x1, pR 195]) (o := 1) (by decide +kernel : pcode 239 4 = some (78, 95, 2, 899, 44)) rfl (Nat.le_of_ble_eq_true rfl) (by decide) (by decide +kernel) rfl rfl rfl,
  fun l1 x1 x2 nx h r s Q  => o_i2l (by decide +kernel : pcode 239 7 = some (35, 0, 0, 0, 0)),
  fun l1 x1 x2 nx h r s Q hi hn => o_last (h := (h, r, s)) (n := 1) (by decide +kernel : pcode 239 8 = some (66, 0, 0, 0, 0)) (by decide) (by decide +kernel) hi hn,
  fun l1 nx h r s Q  => o_goto (by decide +kernel : pcode 239 9 = some (53, 15, 0, 0, 6)),
  fun l1 nx h r s Q  => o_astore_n (by decide +kernel : pcode 239 12 = some (16, 3, 0, 0, 0)) rfl,
  fun l1 nx h r s Q  => o_iconst (by decide +kernel : pcode 239 13 = some (1, 0, 0, 0, 1)),
  fun l1 x0 nx h r s Q  => o_iret (by decide +kernel : pcode 239 14 = some (87, 0, 0, 0, 0)),
  fun l1 nx h r s Q  => o_iconst (by decide +kernel : pcode 239 15 = some (1, 0, 0, 0, 0)),
  fun l1 x0 nx h r s Q  => o_iret (by decide +kernel : pcode 239 16 = some (87, 0, 0, 0, 0))⟩
set_option maxHeartbeats 4000000 in
set_option maxRecDepth 10000 in
theorem st_L_sum :
  (∀ (l1 : Int) (nx : Nat) (h r : PF) (s : Int → Int) (Q : PO → PY → Nat → PC → Prop), (Wp 240 0 [some (pR 1), some (pI l1), some (pR 195), none] [] LY nx (h, r, s) Q ↔ Wp 240 1 [some (pR 1), some (pI l1), some (pR 195), none] [pR 195] LY nx (h, r, s) Q)) ∧
  (∀ (l1 : Int) (nx : Nat) (h r : PF) (s : Int → Int) (Q : PO → PY → Nat → PC → Prop), (Wp 240 1 [some (pR 1), some (pI l1), some (pR 195), none] [pR 195] LY nx (h, r, s) Q ↔ Wp 240 2 [some (pR 1), some (pI l1), some (pR 195), none] [pI 0, pR 195] LY nx (h, r, s) Q)) ∧
  (∀ (l1 : Int) (x1 : Int) (nx : Nat) (h r : PF) (s : Int → Int) (Q : PO → PY → Nat → PC → Prop), (Wp 240 2 [some (pR 1), some (pI l1), some (pR 195), none] [pI x1, pR 195] LY nx (h, r, s) Q ↔ Wp 240 3 [some (pR 1), some (pI l1), some (pR 195), none] [pR 1, pI x1, pR 195] LY nx (h, r, s) Q)) ∧
  (∀ (l1 : Int) (x1 : Int) (nx : Nat) (h r : PF) (s : Int → Int) (Q : PO → PY → Nat → PC → Prop), (Wp 240 3 [some (pR 1), some (pI l1), some (pR 195), none] [pR 1, pI x1, pR 195] LY nx (h, r, s) Q ↔ Wp 240 4 [some (pR 1), some (pI l1), some (pR 195), none] [pI l1, pR 1, pI x1, pR 195] LY nx (h, r, s) Q)) ∧
  (∀ (l1 : Int) (x1 : Int) (x3 : Int) (nx : Nat) (h r : PF) (s : Int → Int) (Q : PO → PY → Nat → PC → Prop), (Wp 240 4 [some (pR 1), some (pI l1), some (pR 195), none] [pI x3, pR 1, pI x1, pR 195] LY nx (h, r, s) Q ↔ Wp 96 0 [some (pR 1), some (pI x3)] [] LY nx (h, r, s) (Kc 240 4 [some (pR 1), some (pI l1), some (pR 195), none] 7 [pI x1, pR 195] Q))) ∧
  (∀ (l1 : Int) (x1 : Int) (x2 : Int) (nx : Nat) (h r : PF) (s : Int → Int) (Q : PO → PY → Nat → PC → Prop), (Wp 240 7 [some (pR 1), some (pI l1), some (pR 195), none] [pI x2, pI x1, pR 195] LY nx (h, r, s) Q ↔ Wp 240 8 [some (pR 1), some (pI l1), some (pR 195), none] [pJ x2, pI x1, pR 195] LY nx (h, r, s) Q)) ∧
  (∀ (l1 : Int) (x1 : Int) (x2 : Int) (nx : Nat) (h r : PF) (s : Int → Int) (Q : PO → PY → Nat → PC → Prop), 0 ≤ x1 → x1 < 1 → (Wp 240 8 [some (pR 1), some (pI l1), some (pR 195), none] [pJ x2, pI x1, pR 195] LY nx (h, r, s) Q ↔ Wp 240 9 [some (pR 1), some (pI l1), some (pR 195), none] [] LY nx (fup h 195 x1 x2, r, s) Q)) ∧
  (∀ (l1 : Int) (nx : Nat) (h r : PF) (s : Int → Int) (Q : PO → PY → Nat → PC → Prop), (Wp 240 9 [some (pR 1), some (pI l1), some (pR 195), none] [] LY nx (h, r, s) Q ↔ Wp 240 15 [some (pR 1), some (pI l1), some (pR 195), none] [] LY nx (h, r, s) Q)) ∧
  (∀ (l1 : Int) (nx : Nat) (h r : PF) (s : Int → Int) (Q : PO → PY → Nat → PC → Prop), (Wp 240 12 [some (pR 1), some (pI l1), some (pR 195), none] [pR (-2000)] LY nx (h, r, s) Q ↔ Wp 240 13 [some (pR 1), some (pI l1), some (pR 195), some (pR (-2000))] [] LY nx (h, r, s) Q)) ∧
  (∀ (l1 : Int) (nx : Nat) (h r : PF) (s : Int → Int) (Q : PO → PY → Nat → PC → Prop), (Wp 240 13 [some (pR 1), some (pI l1), some (pR 195), some (pR (-2000))] [] LY nx (h, r, s) Q ↔ Wp 240 14 [some (pR 1), some (pI l1), some (pR 195), some (pR (-2000))] [pI 1] LY nx (h, r, s) Q)) ∧
  (∀ (l1 : Int) (x0 : Int) (nx : Nat) (h r : PF) (s : Int → Int) (Q : PO → PY → Nat → PC → Prop), (Wp 240 14 [some (pR 1), some (pI l1), some (pR 195), some (pR (-2000))] [pI x0] LY nx (h, r, s) Q ↔ Q (Sum.inl (some (pI x0))) LY nx (h, r, s))) ∧
  (∀ (l1 : Int) (nx : Nat) (h r : PF) (s : Int → Int) (Q : PO → PY → Nat → PC → Prop), (Wp 240 15 [some (pR 1), some (pI l1), some (pR 195), none] [] LY nx (h, r, s) Q ↔ Wp 240 16 [some (pR 1), some (pI l1), some (pR 195), none] [pI 0] LY nx (h, r, s) Q)) ∧
  (∀ (l1 : Int) (x0 : Int) (nx : Nat) (h r : PF) (s : Int → Int) (Q : PO → PY → Nat → PC → Prop), (Wp 240 16 [some (pR 1), some (pI l1), some (pR 195), none] [pI x0] LY nx (h, r, s) Q ↔ Q (Sum.inl (some (pI x0))) LY nx (h, r, s))) :=
  ⟨fun l1 nx h r s Q  => o_aload_n (by decide +kernel : pcode 240 0 = some (10, 2, 0, 0, 0)) rfl,
  fun l1 nx h r s Q  => o_iconst (by decide +kernel : pcode 240 1 = some (1, 0, 0, 0, 0)),
  fun l1 x1 nx h r s Q  => o_aload_n (by decide +kernel : pcode 240 2 = some (10, 0, 0, 0, 0)) rfl,
  fun l1 x1 nx h r s Q  => o_iload_n (by decide +kernel : pcode 240 3 = some (6, 1, 0, 0, 0)) rfl,
  fun l1 x1 x3 nx h r s Q  => o_ivV (s1 := [pI x3]) (s2 := [pI x1, pR 195]) (o := 1) (by decide +kernel : pcode 240 4 = some (78, 96, 2, 906, 47)) rfl (Nat.le_of_ble_eq_true rfl) (by decide) (by decide +kernel) rfl rfl rfl,
  fun l1 x1 x2 nx h r s Q  => o_i2l (by decide +kernel : pcode 240 7 = some (35, 0, 0, 0, 0)),
  fun l1 x1 x2 nx h r s Q hi hn => o_last (h := (h, r, s)) (n := 1) (by decide +kernel : pcode 240 8 = some (66, 0, 0, 0, 0)) (by decide) (by decide +kernel) hi hn,
  fun l1 nx h r s Q  => o_goto (by decide +kernel : pcode 240 9 = some (53, 15, 0, 0, 6)),
  fun l1 nx h r s Q  => o_astore_n (by decide +kernel : pcode 240 12 = some (16, 3, 0, 0, 0)) rfl,
  fun l1 nx h r s Q  => o_iconst (by decide +kernel : pcode 240 13 = some (1, 0, 0, 0, 1)),
  fun l1 x0 nx h r s Q  => o_iret (by decide +kernel : pcode 240 14 = some (87, 0, 0, 0, 0)),
  fun l1 nx h r s Q  => o_iconst (by decide +kernel : pcode 240 15 = some (1, 0, 0, 0, 0)),
  fun l1 x0 nx h r s Q  => o_iret (by decide +kernel : pcode 240 16 = some (87, 0, 0, 0, 0))⟩
set_option maxHeartbeats 4000000 in
set_option maxRecDepth 10000 in
theorem st_L_pays :
  (∀ (l1 : Int) (nx : Nat) (h r : PF) (s : Int → Int) (Q : PO → PY → Nat → PC → Prop), (Wp 241 0 [some (pR 1), some (pI l1), some (pR 195), none] [] LY nx (h, r, s) Q ↔ Wp 241 1 [some (pR 1), some (pI l1), some (pR 195), none] [pR 195] LY nx (h, r, s) Q)) ∧
  (∀ (l1 : Int) (nx : Nat) (h r : PF) (s : Int → Int) (Q : PO → PY → Nat → PC → Prop), (Wp 241 1 [some (pR 1), some (pI l1), some (pR 195), none] [pR 195] LY nx (h, r, s) Q ↔ Wp 241 2 [some (pR 1), some (pI l1), some (pR 195), none] [pI 0, pR 195] LY nx (h, r, s) Q)) ∧
  (∀ (l1 : Int) (x1 : Int) (nx : Nat) (h r : PF) (s : Int → Int) (Q : PO → PY → Nat → PC → Prop), (Wp 241 2 [some (pR 1), some (pI l1), some (pR 195), none] [pI x1, pR 195] LY nx (h, r, s) Q ↔ Wp 241 3 [some (pR 1), some (pI l1), some (pR 195), none] [pR 1, pI x1, pR 195] LY nx (h, r, s) Q)) ∧
  (∀ (l1 : Int) (x1 : Int) (nx : Nat) (h r : PF) (s : Int → Int) (Q : PO → PY → Nat → PC → Prop), (Wp 241 3 [some (pR 1), some (pI l1), some (pR 195), none] [pR 1, pI x1, pR 195] LY nx (h, r, s) Q ↔ Wp 241 4 [some (pR 1), some (pI l1), some (pR 195), none] [pI l1, pR 1, pI x1, pR 195] LY nx (h, r, s) Q)) ∧
  (∀ (l1 : Int) (x1 : Int) (x3 : Int) (nx : Nat) (h r : PF) (s : Int → Int) (Q : PO → PY → Nat → PC → Prop), (Wp 241 4 [some (pR 1), some (pI l1), some (pR 195), none] [pI x3, pR 1, pI x1, pR 195] LY nx (h, r, s) Q ↔ Wp 99 0 [some (pR 1), some (pI x3)] [] LY nx (h, r, s) (Kc 241 4 [some (pR 1), some (pI l1), some (pR 195), none] 7 [pI x1, pR 195] Q))) ∧
  (∀ (l1 : Int) (x1 : Int) (x2 : Int) (nx : Nat) (h r : PF) (s : Int → Int) (Q : PO → PY → Nat → PC → Prop), (Wp 241 7 [some (pR 1), some (pI l1), some (pR 195), none] [pI x2, pI x1, pR 195] LY nx (h, r, s) Q ↔ Wp 241 8 [some (pR 1), some (pI l1), some (pR 195), none] [pJ x2, pI x1, pR 195] LY nx (h, r, s) Q)) ∧
  (∀ (l1 : Int) (x1 : Int) (x2 : Int) (nx : Nat) (h r : PF) (s : Int → Int) (Q : PO → PY → Nat → PC → Prop), 0 ≤ x1 → x1 < 1 → (Wp 241 8 [some (pR 1), some (pI l1), some (pR 195), none] [pJ x2, pI x1, pR 195] LY nx (h, r, s) Q ↔ Wp 241 9 [some (pR 1), some (pI l1), some (pR 195), none] [] LY nx (fup h 195 x1 x2, r, s) Q)) ∧
  (∀ (l1 : Int) (nx : Nat) (h r : PF) (s : Int → Int) (Q : PO → PY → Nat → PC → Prop), (Wp 241 9 [some (pR 1), some (pI l1), some (pR 195), none] [] LY nx (h, r, s) Q ↔ Wp 241 15 [some (pR 1), some (pI l1), some (pR 195), none] [] LY nx (h, r, s) Q)) ∧
  (∀ (l1 : Int) (nx : Nat) (h r : PF) (s : Int → Int) (Q : PO → PY → Nat → PC → Prop), (Wp 241 12 [some (pR 1), some (pI l1), some (pR 195), none] [pR (-2000)] LY nx (h, r, s) Q ↔ Wp 241 13 [some (pR 1), some (pI l1), some (pR 195), some (pR (-2000))] [] LY nx (h, r, s) Q)) ∧
  (∀ (l1 : Int) (nx : Nat) (h r : PF) (s : Int → Int) (Q : PO → PY → Nat → PC → Prop), (Wp 241 13 [some (pR 1), some (pI l1), some (pR 195), some (pR (-2000))] [] LY nx (h, r, s) Q ↔ Wp 241 14 [some (pR 1), some (pI l1), some (pR 195), some (pR (-2000))] [pI 1] LY nx (h, r, s) Q)) ∧
  (∀ (l1 : Int) (x0 : Int) (nx : Nat) (h r : PF) (s : Int → Int) (Q : PO → PY → Nat → PC → Prop), (Wp 241 14 [some (pR 1), some (pI l1), some (pR 195), some (pR (-2000))] [pI x0] LY nx (h, r, s) Q ↔ Q (Sum.inl (some (pI x0))) LY nx (h, r, s))) ∧
  (∀ (l1 : Int) (nx : Nat) (h r : PF) (s : Int → Int) (Q : PO → PY → Nat → PC → Prop), (Wp 241 15 [some (pR 1), some (pI l1), some (pR 195), none] [] LY nx (h, r, s) Q ↔ Wp 241 16 [some (pR 1), some (pI l1), some (pR 195), none] [pI 0] LY nx (h, r, s) Q)) ∧
  (∀ (l1 : Int) (x0 : Int) (nx : Nat) (h r : PF) (s : Int → Int) (Q : PO → PY → Nat → PC → Prop), (Wp 241 16 [some (pR 1), some (pI l1), some (pR 195), none] [pI x0] LY nx (h, r, s) Q ↔ Q (Sum.inl (some (pI x0))) LY nx (h, r, s))) :=
  ⟨fun l1 nx h r s Q  => o_aload_n (by decide +kernel : pcode 241 0 = some (10, 2, 0, 0, 0)) rfl,
  fun l1 nx h r s Q  => o_iconst (by decide +kernel : pcode 241 1 = some (1, 0, 0, 0, 0)),
  fun l1 x1 nx h r s Q  => o_aload_n (by decide +kernel : pcode 241 2 = some (10, 0, 0, 0, 0)) rfl,
  fun l1 x1 nx h r s Q  => o_iload_n (by decide +kernel : pcode 241 3 = some (6, 1, 0, 0, 0)) rfl,
  fun l1 x1 x3 nx h r s Q  => o_ivV (s1 := [pI x3]) (s2 := [pI x1, pR 195]) (o := 1) (by decide +kernel : pcode 241 4 = some (78, 99, 2, 913, 50)) rfl (Nat.le_of_ble_eq_true rfl) (by decide) (by decide +kernel) rfl rfl rfl,
  fun l1 x1 x2 nx h r s Q  => o_i2l (by decide +kernel : pcode 241 7 = some (35, 0, 0, 0, 0)),
  fun l1 x1 x2 nx h r s Q hi hn => o_last (h := (h, r, s)) (n := 1) (by decide +kernel : pcode 241 8 = some (66, 0, 0, 0, 0)) (by decide) (by decide +kernel) hi hn,
  fun l1 nx h r s Q  => o_goto (by decide +kernel : pcode 241 9 = some (53, 15, 0, 0, 6)),
  fun l1 nx h r s Q  => o_astore_n (by decide +kernel : pcode 241 12 = some (16, 3, 0, 0, 0)) rfl,
  fun l1 nx h r s Q  => o_iconst (by decide +kernel : pcode 241 13 = some (1, 0, 0, 0, 1)),
  fun l1 x0 nx h r s Q  => o_iret (by decide +kernel : pcode 241 14 = some (87, 0, 0, 0, 0)),
  fun l1 nx h r s Q  => o_iconst (by decide +kernel : pcode 241 15 = some (1, 0, 0, 0, 0)),
  fun l1 x0 nx h r s Q  => o_iret (by decide +kernel : pcode 241 16 = some (87, 0, 0, 0, 0))⟩
set_option maxHeartbeats 4000000 in
set_option maxRecDepth 10000 in
theorem st_L_coinsAfter :
  (∀ (l1 : Int) (l2 : Int) (nx : Nat) (h r : PF) (s : Int → Int) (Q : PO → PY → Nat → PC → Prop), (Wp 242 0 [some (pR 1), some (pI l1), some (pI l2), some (pR 195), none] [] LY nx (h, r, s) Q ↔ Wp 242 1 [some (pR 1), some (pI l1), some (pI l2), some (pR 195), none] [pR 195] LY nx (h, r, s) Q)) ∧
  (∀ (l1 : Int) (l2 : Int) (nx : Nat) (h r : PF) (s : Int → Int) (Q : PO → PY → Nat → PC → Prop), (Wp 242 1 [some (pR 1), some (pI l1), some (pI l2), some (pR 195), none] [pR 195] LY nx (h, r, s) Q ↔ Wp 242 2 [some (pR 1), some (pI l1), some (pI l2), some (pR 195), none] [pI 0, pR 195] LY nx (h, r, s) Q)) ∧
  (∀ (l1 : Int) (l2 : Int) (x1 : Int) (nx : Nat) (h r : PF) (s : Int → Int) (Q : PO → PY → Nat → PC → Prop), (Wp 242 2 [some (pR 1), some (pI l1), some (pI l2), some (pR 195), none] [pI x1, pR 195] LY nx (h, r, s) Q ↔ Wp 242 3 [some (pR 1), some (pI l1), some (pI l2), some (pR 195), none] [pR 1, pI x1, pR 195] LY nx (h, r, s) Q)) ∧
  (∀ (l1 : Int) (l2 : Int) (x1 : Int) (nx : Nat) (h r : PF) (s : Int → Int) (Q : PO → PY → Nat → PC → Prop), (Wp 242 3 [some (pR 1), some (pI l1), some (pI l2), some (pR 195), none] [pR 1, pI x1, pR 195] LY nx (h, r, s) Q ↔ Wp 242 4 [some (pR 1), some (pI l1), some (pI l2), some (pR 195), none] [pI l1, pR 1, pI x1, pR 195] LY nx (h, r, s) Q)) ∧
  (∀ (l1 : Int) (l2 : Int) (x1 : Int) (x3 : Int) (nx : Nat) (h r : PF) (s : Int → Int) (Q : PO → PY → Nat → PC → Prop), (Wp 242 4 [some (pR 1), some (pI l1), some (pI l2), some (pR 195), none] [pI x3, pR 1, pI x1, pR 195] LY nx (h, r, s) Q ↔ Wp 242 5 [some (pR 1), some (pI l1), some (pI l2), some (pR 195), none] [pI l2, pI x3, pR 1, pI x1, pR 195] LY nx (h, r, s) Q)) ∧
  (∀ (l1 : Int) (l2 : Int) (x1 : Int) (x3 : Int) (x4 : Int) (nx : Nat) (h r : PF) (s : Int → Int) (Q : PO → PY → Nat → PC → Prop), (Wp 242 5 [some (pR 1), some (pI l1), some (pI l2), some (pR 195), none] [pI x4, pI x3, pR 1, pI x1, pR 195] LY nx (h, r, s) Q ↔ Wp 100 0 [some (pR 1), some (pI x3), some (pI x4)] [] LY nx (h, r, s) (Kc 242 5 [some (pR 1), some (pI l1), some (pI l2), some (pR 195), none] 8 [pI x1, pR 195] Q))) ∧
  (∀ (l1 : Int) (l2 : Int) (x1 : Int) (x2 : Int) (nx : Nat) (h r : PF) (s : Int → Int) (Q : PO → PY → Nat → PC → Prop), (Wp 242 8 [some (pR 1), some (pI l1), some (pI l2), some (pR 195), none] [pI x2, pI x1, pR 195] LY nx (h, r, s) Q ↔ Wp 242 9 [some (pR 1), some (pI l1), some (pI l2), some (pR 195), none] [pJ x2, pI x1, pR 195] LY nx (h, r, s) Q)) ∧
  (∀ (l1 : Int) (l2 : Int) (x1 : Int) (x2 : Int) (nx : Nat) (h r : PF) (s : Int → Int) (Q : PO → PY → Nat → PC → Prop), 0 ≤ x1 → x1 < 1 → (Wp 242 9 [some (pR 1), some (pI l1), some (pI l2), some (pR 195), none] [pJ x2, pI x1, pR 195] LY nx (h, r, s) Q ↔ Wp 242 10 [some (pR 1), some (pI l1), some (pI l2), some (pR 195), none] [] LY nx (fup h 195 x1 x2, r, s) Q)) ∧
  (∀ (l1 : Int) (l2 : Int) (nx : Nat) (h r : PF) (s : Int → Int) (Q : PO → PY → Nat → PC → Prop), (Wp 242 10 [some (pR 1), some (pI l1), some (pI l2), some (pR 195), none] [] LY nx (h, r, s) Q ↔ Wp 242 21 [some (pR 1), some (pI l1), some (pI l2), some (pR 195), none] [] LY nx (h, r, s) Q)) ∧
  (∀ (l1 : Int) (l2 : Int) (nx : Nat) (h r : PF) (s : Int → Int) (Q : PO → PY → Nat → PC → Prop), (Wp 242 13 [some (pR 1), some (pI l1), some (pI l2), some (pR 195), none] [pR (-2000)] LY nx (h, r, s) Q ↔ Wp 242 15 [some (pR 1), some (pI l1), some (pI l2), some (pR 195), some (pR (-2000))] [] LY nx (h, r, s) Q)) ∧
  (∀ (l1 : Int) (l2 : Int) (nx : Nat) (h r : PF) (s : Int → Int) (Q : PO → PY → Nat → PC → Prop), (Wp 242 15 [some (pR 1), some (pI l1), some (pI l2), some (pR 195), some (pR (-2000))] [] LY nx (h, r, s) Q ↔ Wp 242 16 [some (pR 1), some (pI l1), some (pI l2), some (pR 195), some (pR (-2000))] [pI 1] LY nx (h, r, s) Q)) ∧
  (∀ (l1 : Int) (l2 : Int) (x0 : Int) (nx : Nat) (h r : PF) (s : Int → Int) (Q : PO → PY → Nat → PC → Prop), (Wp 242 16 [some (pR 1), some (pI l1), some (pI l2), some (pR 195), some (pR (-2000))] [pI x0] LY nx (h, r, s) Q ↔ Q (Sum.inl (some (pI x0))) LY nx (h, r, s))) ∧
  (∀ (l1 : Int) (l2 : Int) (nx : Nat) (h r : PF) (s : Int → Int) (Q : PO → PY → Nat → PC → Prop), (Wp 242 17 [some (pR 1), some (pI l1), some (pI l2), some (pR 195), none] [pR (-2000)] LY nx (h, r, s) Q ↔ Wp 242 19 [some (pR 1), some (pI l1), some (pI l2), some (pR 195), some (pR (-2000))] [] LY nx (h, r, s) Q)) ∧
  (∀ (l1 : Int) (l2 : Int) (nx : Nat) (h r : PF) (s : Int → Int) (Q : PO → PY → Nat → PC → Prop), (Wp 242 19 [some (pR 1), some (pI l1), some (pI l2), some (pR 195), some (pR (-2000))] [] LY nx (h, r, s) Q ↔ Wp 242 20 [some (pR 1), some (pI l1), some (pI l2), some (pR 195), some (pR (-2000))] [pI 2] LY nx (h, r, s) Q)) ∧
  (∀ (l1 : Int) (l2 : Int) (x0 : Int) (nx : Nat) (h r : PF) (s : Int → Int) (Q : PO → PY → Nat → PC → Prop), (Wp 242 20 [some (pR 1), some (pI l1), some (pI l2), some (pR 195), some (pR (-2000))] [pI x0] LY nx (h, r, s) Q ↔ Q (Sum.inl (some (pI x0))) LY nx (h, r, s))) ∧
  (∀ (l1 : Int) (l2 : Int) (nx : Nat) (h r : PF) (s : Int → Int) (Q : PO → PY → Nat → PC → Prop), (Wp 242 21 [some (pR 1), some (pI l1), some (pI l2), some (pR 195), none] [] LY nx (h, r, s) Q ↔ Wp 242 22 [some (pR 1), some (pI l1), some (pI l2), some (pR 195), none] [pI 0] LY nx (h, r, s) Q)) ∧
  (∀ (l1 : Int) (l2 : Int) (x0 : Int) (nx : Nat) (h r : PF) (s : Int → Int) (Q : PO → PY → Nat → PC → Prop), (Wp 242 22 [some (pR 1), some (pI l1), some (pI l2), some (pR 195), none] [pI x0] LY nx (h, r, s) Q ↔ Q (Sum.inl (some (pI x0))) LY nx (h, r, s))) :=
  ⟨fun l1 l2 nx h r s Q  => o_aload_n (by decide +kernel : pcode 242 0 = some (10, 3, 0, 0, 0)) rfl,
  fun l1 l2 nx h r s Q  => o_iconst (by decide +kernel : pcode 242 1 = some (1, 0, 0, 0, 0)),
  fun l1 l2 x1 nx h r s Q  => o_aload_n (by decide +kernel : pcode 242 2 = some (10, 0, 0, 0, 0)) rfl,
  fun l1 l2 x1 nx h r s Q  => o_iload_n (by decide +kernel : pcode 242 3 = some (6, 1, 0, 0, 0)) rfl,
  fun l1 l2 x1 x3 nx h r s Q  => o_iload_n (by decide +kernel : pcode 242 4 = some (6, 2, 0, 0, 0)) rfl,
  fun l1 l2 x1 x3 x4 nx h r s Q  => o_ivV (s1 := [pI x4, pI x3]) (s2 := [pI x1, pR 195]) (o := 1) (by decide +kernel : pcode 242 5 = some (78, 100, 3, 920, 53)) rfl (Nat.le_of_ble_eq_true rfl) (by decide) (by decide +kernel) rfl rfl rfl,
  fun l1 l2 x1 x2 nx h r s Q  => o_i2l (by decide +kernel : pcode 242 8 = some (35, 0, 0, 0, 0)),
  fun l1 l2 x1 x2 nx h r s Q hi hn => o_last (h := (h, r, s)) (n := 1) (by decide +kernel : pcode 242 9 = some (66, 0, 0, 0, 0)) (by decide) (by decide +kernel) hi hn,
  fun l1 l2 nx h r s Q  => o_goto (by decide +kernel : pcode 242 10 = some (53, 21, 0, 0, 11)),
  fun l1 l2 nx h r s Q  => o_astore (by decide +kernel : pcode 242 13 = some (17, 4, 0, 0, 0)) rfl,
  fun l1 l2 nx h r s Q  => o_iconst (by decide +kernel : pcode 242 15 = some (1, 0, 0, 0, 1)),
  fun l1 l2 x0 nx h r s Q  => o_iret (by decide +kernel : pcode 242 16 = some (87, 0, 0, 0, 0)),
  fun l1 l2 nx h r s Q  => o_astore (by decide +kernel : pcode 242 17 = some (17, 4, 0, 0, 0)) rfl,
  fun l1 l2 nx h r s Q  => o_iconst (by decide +kernel : pcode 242 19 = some (1, 0, 0, 0, 2)),
  fun l1 l2 x0 nx h r s Q  => o_iret (by decide +kernel : pcode 242 20 = some (87, 0, 0, 0, 0)),
  fun l1 l2 nx h r s Q  => o_iconst (by decide +kernel : pcode 242 21 = some (1, 0, 0, 0, 0)),
  fun l1 l2 x0 nx h r s Q  => o_iret (by decide +kernel : pcode 242 22 = some (87, 0, 0, 0, 0))⟩
set_option maxHeartbeats 4000000 in
set_option maxRecDepth 10000 in
theorem st_L_accepts :
  (∀ (l1 : Int) (nx : Nat) (h r : PF) (s : Int → Int) (Q : PO → PY → Nat → PC → Prop), (Wp 243 0 [some (pR 1), some (pI l1), some (pR 195), none] [] LY nx (h, r, s) Q ↔ Wp 243 1 [some (pR 1), some (pI l1), some (pR 195), none] [pR 195] LY nx (h, r, s) Q)) ∧
  (∀ (l1 : Int) (nx : Nat) (h r : PF) (s : Int → Int) (Q : PO → PY → Nat → PC → Prop), (Wp 243 1 [some (pR 1), some (pI l1), some (pR 195), none] [pR 195] LY nx (h, r, s) Q ↔ Wp 243 2 [some (pR 1), some (pI l1), some (pR 195), none] [pI 0, pR 195] LY nx (h, r, s) Q)) ∧
  (∀ (l1 : Int) (x1 : Int) (nx : Nat) (h r : PF) (s : Int → Int) (Q : PO → PY → Nat → PC → Prop), (Wp 243 2 [some (pR 1), some (pI l1), some (pR 195), none] [pI x1, pR 195] LY nx (h, r, s) Q ↔ Wp 243 3 [some (pR 1), some (pI l1), some (pR 195), none] [pR 1, pI x1, pR 195] LY nx (h, r, s) Q)) ∧
  (∀ (l1 : Int) (x1 : Int) (nx : Nat) (h r : PF) (s : Int → Int) (Q : PO → PY → Nat → PC → Prop), (Wp 243 3 [some (pR 1), some (pI l1), some (pR 195), none] [pR 1, pI x1, pR 195] LY nx (h, r, s) Q ↔ Wp 243 4 [some (pR 1), some (pI l1), some (pR 195), none] [pI l1, pR 1, pI x1, pR 195] LY nx (h, r, s) Q)) ∧
  (∀ (l1 : Int) (x1 : Int) (x3 : Int) (nx : Nat) (h r : PF) (s : Int → Int) (Q : PO → PY → Nat → PC → Prop), (Wp 243 4 [some (pR 1), some (pI l1), some (pR 195), none] [pI x3, pR 1, pI x1, pR 195] LY nx (h, r, s) Q ↔ Wp 102 0 [some (pR 1), some (pI x3)] [] LY nx (h, r, s) (Kc 243 4 [some (pR 1), some (pI l1), some (pR 195), none] 7 [pI x1, pR 195] Q))) ∧
  (∀ (l1 : Int) (x1 : Int) (x2 : Int) (nx : Nat) (h r : PF) (s : Int → Int) (Q : PO → PY → Nat → PC → Prop), (Wp 243 7 [some (pR 1), some (pI l1), some (pR 195), none] [pI x2, pI x1, pR 195] LY nx (h, r, s) Q ↔ (if x2 = 0 then Wp 243 14 [some (pR 1), some (pI l1), some (pR 195), none] [pI x1, pR 195] LY nx (h, r, s) Q else Wp 243 10 [some (pR 1), some (pI l1), some (pR 195), none] [pI x1, pR 195] LY nx (h, r, s) Q))) ∧
  (∀ (l1 : Int) (x1 : Int) (nx : Nat) (h r : PF) (s : Int → Int) (Q : PO → PY → Nat → PC → Prop), (Wp 243 10 [some (pR 1), some (pI l1), some (pR 195), none] [pI x1, pR 195] LY nx (h, r, s) Q ↔ Wp 243 11 [some (pR 1), some (pI l1), some (pR 195), none] [pJ 1, pI x1, pR 195] LY nx (h, r, s) Q)) ∧
  (∀ (l1 : Int) (x1 : Int) (x2 : Int) (nx : Nat) (h r : PF) (s : Int → Int) (Q : PO → PY → Nat → PC → Prop), (Wp 243 11 [some (pR 1), some (pI l1), some (pR 195), none] [pJ x2, pI x1, pR 195] LY nx (h, r, s) Q ↔ Wp 243 15 [some (pR 1), some (pI l1), some (pR 195), none] [pJ x2, pI x1, pR 195] LY nx (h, r, s) Q)) ∧
  (∀ (l1 : Int) (x1 : Int) (nx : Nat) (h r : PF) (s : Int → Int) (Q : PO → PY → Nat → PC → Prop), (Wp 243 14 [some (pR 1), some (pI l1), some (pR 195), none] [pI x1, pR 195] LY nx (h, r, s) Q ↔ Wp 243 15 [some (pR 1), some (pI l1), some (pR 195), none] [pJ 0, pI x1, pR 195] LY nx (h, r, s) Q)) ∧
  (∀ (l1 : Int) (x1 : Int) (x2 : Int) (nx : Nat) (h r : PF) (s : Int → Int) (Q : PO → PY → Nat → PC → Prop), 0 ≤ x1 → x1 < 1 → (Wp 243 15 [some (pR 1), some (pI l1), some (pR 195), none] [pJ x2, pI x1, pR 195] LY nx (h, r, s) Q ↔ Wp 243 16 [some (pR 1), some (pI l1), some (pR 195), none] [] LY nx (fup h 195 x1 x2, r, s) Q)) ∧
  (∀ (l1 : Int) (nx : Nat) (h r : PF) (s : Int → Int) (Q : PO → PY → Nat → PC → Prop), (Wp 243 16 [some (pR 1), some (pI l1), some (pR 195), none] [] LY nx (h, r, s) Q ↔ Wp 243 22 [some (pR 1), some (pI l1), some (pR 195), none] [] LY nx (h, r, s) Q)) ∧
  (∀ (l1 : Int) (nx : Nat) (h r : PF) (s : Int → Int) (Q : PO → PY → Nat → PC → Prop), (Wp 243 19 [some (pR 1), some (pI l1), some (pR 195), none] [pR (-2000)] LY nx (h, r, s) Q ↔ Wp 243 20 [some (pR 1), some (pI l1), some (pR 195), some (pR (-2000))] [] LY nx (h, r, s) Q)) ∧
  (∀ (l1 : Int) (nx : Nat) (h r : PF) (s : Int → Int) (Q : PO → PY → Nat → PC → Prop), (Wp 243 20 [some (pR 1), some (pI l1), some (pR 195), some (pR (-2000))] [] LY nx (h, r, s) Q ↔ Wp 243 21 [some (pR 1), some (pI l1), some (pR 195), some (pR (-2000))] [pI 1] LY nx (h, r, s) Q)) ∧
  (∀ (l1 : Int) (x0 : Int) (nx : Nat) (h r : PF) (s : Int → Int) (Q : PO → PY → Nat → PC → Prop), (Wp 243 21 [some (pR 1), some (pI l1), some (pR 195), some (pR (-2000))] [pI x0] LY nx (h, r, s) Q ↔ Q (Sum.inl (some (pI x0))) LY nx (h, r, s))) ∧
  (∀ (l1 : Int) (nx : Nat) (h r : PF) (s : Int → Int) (Q : PO → PY → Nat → PC → Prop), (Wp 243 22 [some (pR 1), some (pI l1), some (pR 195), none] [] LY nx (h, r, s) Q ↔ Wp 243 23 [some (pR 1), some (pI l1), some (pR 195), none] [pI 0] LY nx (h, r, s) Q)) ∧
  (∀ (l1 : Int) (x0 : Int) (nx : Nat) (h r : PF) (s : Int → Int) (Q : PO → PY → Nat → PC → Prop), (Wp 243 23 [some (pR 1), some (pI l1), some (pR 195), none] [pI x0] LY nx (h, r, s) Q ↔ Q (Sum.inl (some (pI x0))) LY nx (h, r, s))) :=
  ⟨fun l1 nx h r s Q  => o_aload_n (by decide +kernel : pcode 243 0 = some (10, 2, 0, 0, 0)) rfl,
  fun l1 nx h r s Q  => o_iconst (by decide +kernel : pcode 243 1 = some (1, 0, 0, 0, 0)),
  fun l1 x1 nx h r s Q  => o_aload_n (by decide +kernel : pcode 243 2 = some (10, 0, 0, 0, 0)) rfl,
  fun l1 x1 nx h r s Q  => o_iload_n (by decide +kernel : pcode 243 3 = some (6, 1, 0, 0, 0)) rfl,
  fun l1 x1 x3 nx h r s Q  => o_ivV (s1 := [pI x3]) (s2 := [pI x1, pR 195]) (o := 1) (by decide +kernel : pcode 243 4 = some (78, 102, 2, 982, 56)) rfl (Nat.le_of_ble_eq_true rfl) (by decide) (by decide +kernel) rfl rfl rfl,
  fun l1 x1 x2 nx h r s Q  => o_if_eq (by decide +kernel : pcode 243 7 = some (41, 14, 0, 0, 7)),
  fun l1 x1 nx h r s Q  => o_lconst (by decide +kernel : pcode 243 10 = some (4, 0, 0, 0, 1)),
  fun l1 x1 x2 nx h r s Q  => o_goto (by decide +kernel : pcode 243 11 = some (53, 15, 0, 0, 4)),
  fun l1 x1 nx h r s Q  => o_lconst (by decide +kernel : pcode 243 14 = some (4, 0, 0, 0, 0)),
  fun l1 x1 x2 nx h r s Q hi hn => o_last (h := (h, r, s)) (n := 1) (by decide +kernel : pcode 243 15 = some (66, 0, 0, 0, 0)) (by decide) (by decide +kernel) hi hn,
  fun l1 nx h r s Q  => o_goto (by decide +kernel : pcode 243 16 = some (53, 22, 0, 0, 6)),
  fun l1 nx h r s Q  => o_astore_n (by decide +kernel : pcode 243 19 = some (16, 3, 0, 0, 0)) rfl,
  fun l1 nx h r s Q  => o_iconst (by decide +kernel : pcode 243 20 = some (1, 0, 0, 0, 1)),
  fun l1 x0 nx h r s Q  => o_iret (by decide +kernel : pcode 243 21 = some (87, 0, 0, 0, 0)),
  fun l1 nx h r s Q  => o_iconst (by decide +kernel : pcode 243 22 = some (1, 0, 0, 0, 0)),
  fun l1 x0 nx h r s Q  => o_iret (by decide +kernel : pcode 243 23 = some (87, 0, 0, 0, 0))⟩
set_option maxHeartbeats 4000000 in
set_option maxRecDepth 10000 in
theorem st_L_words :
  (∀ (l1 : Int) (l2 : Int) (nx : Nat) (h r : PF) (s : Int → Int) (Q : PO → PY → Nat → PC → Prop), (Wp 244 0 [some (pR 1), some (pI l1), some (pI l2), some (pR 195), none] [] LY nx (h, r, s) Q ↔ Wp 244 1 [some (pR 1), some (pI l1), some (pI l2), some (pR 195), none] [pR 195] LY nx (h, r, s) Q)) ∧
  (∀ (l1 : Int) (l2 : Int) (nx : Nat) (h r : PF) (s : Int → Int) (Q : PO → PY → Nat → PC → Prop), (Wp 244 1 [some (pR 1), some (pI l1), some (pI l2), some (pR 195), none] [pR 195] LY nx (h, r, s) Q ↔ Wp 244 2 [some (pR 1), some (pI l1), some (pI l2), some (pR 195), none] [pI 0, pR 195] LY nx (h, r, s) Q)) ∧
  (∀ (l1 : Int) (l2 : Int) (x1 : Int) (nx : Nat) (h r : PF) (s : Int → Int) (Q : PO → PY → Nat → PC → Prop), (Wp 244 2 [some (pR 1), some (pI l1), some (pI l2), some (pR 195), none] [pI x1, pR 195] LY nx (h, r, s) Q ↔ Wp 244 3 [some (pR 1), some (pI l1), some (pI l2), some (pR 195), none] [pR 1, pI x1, pR 195] LY nx (h, r, s) Q)) ∧
  (∀ (l1 : Int) (l2 : Int) (x1 : Int) (nx : Nat) (h r : PF) (s : Int → Int) (Q : PO → PY → Nat → PC → Prop), (Wp 244 3 [some (pR 1), some (pI l1), some (pI l2), some (pR 195), none] [pR 1, pI x1, pR 195] LY nx (h, r, s) Q ↔ Wp 244 4 [some (pR 1), some (pI l1), some (pI l2), some (pR 195), none] [pI l1, pR 1, pI x1, pR 195] LY nx (h, r, s) Q)) ∧
  (∀ (l1 : Int) (l2 : Int) (x1 : Int) (x3 : Int) (nx : Nat) (h r : PF) (s : Int → Int) (Q : PO → PY → Nat → PC → Prop), (Wp 244 4 [some (pR 1), some (pI l1), some (pI l2), some (pR 195), none] [pI x3, pR 1, pI x1, pR 195] LY nx (h, r, s) Q ↔ Wp 244 5 [some (pR 1), some (pI l1), some (pI l2), some (pR 195), none] [pI l2, pI x3, pR 1, pI x1, pR 195] LY nx (h, r, s) Q)) ∧
  (∀ (l1 : Int) (l2 : Int) (x1 : Int) (x3 : Int) (x4 : Int) (nx : Nat) (h r : PF) (s : Int → Int) (Q : PO → PY → Nat → PC → Prop), (Wp 244 5 [some (pR 1), some (pI l1), some (pI l2), some (pR 195), none] [pI x4, pI x3, pR 1, pI x1, pR 195] LY nx (h, r, s) Q ↔ Wp 104 0 [some (pR 1), some (pI x3), some (pI x4)] [] LY nx (h, r, s) (Kc 244 5 [some (pR 1), some (pI l1), some (pI l2), some (pR 195), none] 8 [pI x1, pR 195] Q))) ∧
  (∀ (l1 : Int) (l2 : Int) (x1 : Int) (x2 : Int) (nx : Nat) (h r : PF) (s : Int → Int) (Q : PO → PY → Nat → PC → Prop), 0 ≤ x1 → x1 < 1 → (Wp 244 8 [some (pR 1), some (pI l1), some (pI l2), some (pR 195), none] [pJ x2, pI x1, pR 195] LY nx (h, r, s) Q ↔ Wp 244 9 [some (pR 1), some (pI l1), some (pI l2), some (pR 195), none] [] LY nx (fup h 195 x1 x2, r, s) Q)) ∧
  (∀ (l1 : Int) (l2 : Int) (nx : Nat) (h r : PF) (s : Int → Int) (Q : PO → PY → Nat → PC → Prop), (Wp 244 9 [some (pR 1), some (pI l1), some (pI l2), some (pR 195), none] [] LY nx (h, r, s) Q ↔ Wp 244 20 [some (pR 1), some (pI l1), some (pI l2), some (pR 195), none] [] LY nx (h, r, s) Q)) ∧
  (∀ (l1 : Int) (l2 : Int) (nx : Nat) (h r : PF) (s : Int → Int) (Q : PO → PY → Nat → PC → Prop), (Wp 244 12 [some (pR 1), some (pI l1), some (pI l2), some (pR 195), none] [pR (-2000)] LY nx (h, r, s) Q ↔ Wp 244 14 [some (pR 1), some (pI l1), some (pI l2), some (pR 195), some (pR (-2000))] [] LY nx (h, r, s) Q)) ∧
  (∀ (l1 : Int) (l2 : Int) (nx : Nat) (h r : PF) (s : Int → Int) (Q : PO → PY → Nat → PC → Prop), (Wp 244 14 [some (pR 1), some (pI l1), some (pI l2), some (pR 195), some (pR (-2000))] [] LY nx (h, r, s) Q ↔ Wp 244 15 [some (pR 1), some (pI l1), some (pI l2), some (pR 195), some (pR (-2000))] [pI 1] LY nx (h, r, s) Q)) ∧
  (∀ (l1 : Int) (l2 : Int) (x0 : Int) (nx : Nat) (h r : PF) (s : Int → Int) (Q : PO → PY → Nat → PC → Prop), (Wp 244 15 [some (pR 1), some (pI l1), some (pI l2), some (pR 195), some (pR (-2000))] [pI x0] LY nx (h, r, s) Q ↔ Q (Sum.inl (some (pI x0))) LY nx (h, r, s))) ∧
  (∀ (l1 : Int) (l2 : Int) (nx : Nat) (h r : PF) (s : Int → Int) (Q : PO → PY → Nat → PC → Prop), (Wp 244 16 [some (pR 1), some (pI l1), some (pI l2), some (pR 195), none] [pR (-2000)] LY nx (h, r, s) Q ↔ Wp 244 18 [some (pR 1), some (pI l1), some (pI l2), some (pR 195), some (pR (-2000))] [] LY nx (h, r, s) Q)) ∧
  (∀ (l1 : Int) (l2 : Int) (nx : Nat) (h r : PF) (s : Int → Int) (Q : PO → PY → Nat → PC → Prop), (Wp 244 18 [some (pR 1), some (pI l1), some (pI l2), some (pR 195), some (pR (-2000))] [] LY nx (h, r, s) Q ↔ Wp 244 19 [some (pR 1), some (pI l1), some (pI l2), some (pR 195), some (pR (-2000))] [pI 2] LY nx (h, r, s) Q)) ∧
  (∀ (l1 : Int) (l2 : Int) (x0 : Int) (nx : Nat) (h r : PF) (s : Int → Int) (Q : PO → PY → Nat → PC → Prop), (Wp 244 19 [some (pR 1), some (pI l1), some (pI l2), some (pR 195), some (pR (-2000))] [pI x0] LY nx (h, r, s) Q ↔ Q (Sum.inl (some (pI x0))) LY nx (h, r, s))) ∧
  (∀ (l1 : Int) (l2 : Int) (nx : Nat) (h r : PF) (s : Int → Int) (Q : PO → PY → Nat → PC → Prop), (Wp 244 20 [some (pR 1), some (pI l1), some (pI l2), some (pR 195), none] [] LY nx (h, r, s) Q ↔ Wp 244 21 [some (pR 1), some (pI l1), some (pI l2), some (pR 195), none] [pI 0] LY nx (h, r, s) Q)) ∧
  (∀ (l1 : Int) (l2 : Int) (x0 : Int) (nx : Nat) (h r : PF) (s : Int → Int) (Q : PO → PY → Nat → PC → Prop), (Wp 244 21 [some (pR 1), some (pI l1), some (pI l2), some (pR 195), none] [pI x0] LY nx (h, r, s) Q ↔ Q (Sum.inl (some (pI x0))) LY nx (h, r, s))) :=
  ⟨fun l1 l2 nx h r s Q  => o_aload_n (by decide +kernel : pcode 244 0 = some (10, 3, 0, 0, 0)) rfl,
  fun l1 l2 nx h r s Q  => o_iconst (by decide +kernel : pcode 244 1 = some (1, 0, 0, 0, 0)),
  fun l1 l2 x1 nx h r s Q  => o_aload_n (by decide +kernel : pcode 244 2 = some (10, 0, 0, 0, 0)) rfl,
  fun l1 l2 x1 nx h r s Q  => o_iload_n (by decide +kernel : pcode 244 3 = some (6, 1, 0, 0, 0)) rfl,
  fun l1 l2 x1 x3 nx h r s Q  => o_iload_n (by decide +kernel : pcode 244 4 = some (6, 2, 0, 0, 0)) rfl,
  fun l1 l2 x1 x3 x4 nx h r s Q  => o_ivV (s1 := [pI x4, pI x3]) (s2 := [pI x1, pR 195]) (o := 1) (by decide +kernel : pcode 244 5 = some (78, 104, 3, 993, 60)) rfl (Nat.le_of_ble_eq_true rfl) (by decide) (by decide +kernel) rfl rfl rfl,
  fun l1 l2 x1 x2 nx h r s Q hi hn => o_last (h := (h, r, s)) (n := 1) (by decide +kernel : pcode 244 8 = some (66, 0, 0, 0, 0)) (by decide) (by decide +kernel) hi hn,
  fun l1 l2 nx h r s Q  => o_goto (by decide +kernel : pcode 244 9 = some (53, 20, 0, 0, 11)),
  fun l1 l2 nx h r s Q  => o_astore (by decide +kernel : pcode 244 12 = some (17, 4, 0, 0, 0)) rfl,
  fun l1 l2 nx h r s Q  => o_iconst (by decide +kernel : pcode 244 14 = some (1, 0, 0, 0, 1)),
  fun l1 l2 x0 nx h r s Q  => o_iret (by decide +kernel : pcode 244 15 = some (87, 0, 0, 0, 0)),
  fun l1 l2 nx h r s Q  => o_astore (by decide +kernel : pcode 244 16 = some (17, 4, 0, 0, 0)) rfl,
  fun l1 l2 nx h r s Q  => o_iconst (by decide +kernel : pcode 244 18 = some (1, 0, 0, 0, 2)),
  fun l1 l2 x0 nx h r s Q  => o_iret (by decide +kernel : pcode 244 19 = some (87, 0, 0, 0, 0)),
  fun l1 l2 nx h r s Q  => o_iconst (by decide +kernel : pcode 244 20 = some (1, 0, 0, 0, 0)),
  fun l1 l2 x0 nx h r s Q  => o_iret (by decide +kernel : pcode 244 21 = some (87, 0, 0, 0, 0))⟩
set_option maxHeartbeats 4000000 in
set_option maxRecDepth 10000 in
theorem st_L_shortest :
  (∀ (l1 : Int) (nx : Nat) (h r : PF) (s : Int → Int) (Q : PO → PY → Nat → PC → Prop), (Wp 245 0 [some (pR 1), some (pI l1), some (pR 195), none] [] LY nx (h, r, s) Q ↔ Wp 245 1 [some (pR 1), some (pI l1), some (pR 195), none] [pR 195] LY nx (h, r, s) Q)) ∧
  (∀ (l1 : Int) (nx : Nat) (h r : PF) (s : Int → Int) (Q : PO → PY → Nat → PC → Prop), (Wp 245 1 [some (pR 1), some (pI l1), some (pR 195), none] [pR 195] LY nx (h, r, s) Q ↔ Wp 245 2 [some (pR 1), some (pI l1), some (pR 195), none] [pI 0, pR 195] LY nx (h, r, s) Q)) ∧
  (∀ (l1 : Int) (x1 : Int) (nx : Nat) (h r : PF) (s : Int → Int) (Q : PO → PY → Nat → PC → Prop), (Wp 245 2 [some (pR 1), some (pI l1), some (pR 195), none] [pI x1, pR 195] LY nx (h, r, s) Q ↔ Wp 245 3 [some (pR 1), some (pI l1), some (pR 195), none] [pR 1, pI x1, pR 195] LY nx (h, r, s) Q)) ∧
  (∀ (l1 : Int) (x1 : Int) (nx : Nat) (h r : PF) (s : Int → Int) (Q : PO → PY → Nat → PC → Prop), (Wp 245 3 [some (pR 1), some (pI l1), some (pR 195), none] [pR 1, pI x1, pR 195] LY nx (h, r, s) Q ↔ Wp 245 4 [some (pR 1), some (pI l1), some (pR 195), none] [pI l1, pR 1, pI x1, pR 195] LY nx (h, r, s) Q)) ∧
  (∀ (l1 : Int) (x1 : Int) (x3 : Int) (nx : Nat) (h r : PF) (s : Int → Int) (Q : PO → PY → Nat → PC → Prop), (Wp 245 4 [some (pR 1), some (pI l1), some (pR 195), none] [pI x3, pR 1, pI x1, pR 195] LY nx (h, r, s) Q ↔ Wp 105 0 [some (pR 1), some (pI x3)] [] LY nx (h, r, s) (Kc 245 4 [some (pR 1), some (pI l1), some (pR 195), none] 7 [pI x1, pR 195] Q))) ∧
  (∀ (l1 : Int) (x1 : Int) (x2 : Int) (nx : Nat) (h r : PF) (s : Int → Int) (Q : PO → PY → Nat → PC → Prop), (Wp 245 7 [some (pR 1), some (pI l1), some (pR 195), none] [pI x2, pI x1, pR 195] LY nx (h, r, s) Q ↔ Wp 245 8 [some (pR 1), some (pI l1), some (pR 195), none] [pJ x2, pI x1, pR 195] LY nx (h, r, s) Q)) ∧
  (∀ (l1 : Int) (x1 : Int) (x2 : Int) (nx : Nat) (h r : PF) (s : Int → Int) (Q : PO → PY → Nat → PC → Prop), 0 ≤ x1 → x1 < 1 → (Wp 245 8 [some (pR 1), some (pI l1), some (pR 195), none] [pJ x2, pI x1, pR 195] LY nx (h, r, s) Q ↔ Wp 245 9 [some (pR 1), some (pI l1), some (pR 195), none] [] LY nx (fup h 195 x1 x2, r, s) Q)) ∧
  (∀ (l1 : Int) (nx : Nat) (h r : PF) (s : Int → Int) (Q : PO → PY → Nat → PC → Prop), (Wp 245 9 [some (pR 1), some (pI l1), some (pR 195), none] [] LY nx (h, r, s) Q ↔ Wp 245 15 [some (pR 1), some (pI l1), some (pR 195), none] [] LY nx (h, r, s) Q)) ∧
  (∀ (l1 : Int) (nx : Nat) (h r : PF) (s : Int → Int) (Q : PO → PY → Nat → PC → Prop), (Wp 245 12 [some (pR 1), some (pI l1), some (pR 195), none] [pR (-2000)] LY nx (h, r, s) Q ↔ Wp 245 13 [some (pR 1), some (pI l1), some (pR 195), some (pR (-2000))] [] LY nx (h, r, s) Q)) ∧
  (∀ (l1 : Int) (nx : Nat) (h r : PF) (s : Int → Int) (Q : PO → PY → Nat → PC → Prop), (Wp 245 13 [some (pR 1), some (pI l1), some (pR 195), some (pR (-2000))] [] LY nx (h, r, s) Q ↔ Wp 245 14 [some (pR 1), some (pI l1), some (pR 195), some (pR (-2000))] [pI 1] LY nx (h, r, s) Q)) ∧
  (∀ (l1 : Int) (x0 : Int) (nx : Nat) (h r : PF) (s : Int → Int) (Q : PO → PY → Nat → PC → Prop), (Wp 245 14 [some (pR 1), some (pI l1), some (pR 195), some (pR (-2000))] [pI x0] LY nx (h, r, s) Q ↔ Q (Sum.inl (some (pI x0))) LY nx (h, r, s))) ∧
  (∀ (l1 : Int) (nx : Nat) (h r : PF) (s : Int → Int) (Q : PO → PY → Nat → PC → Prop), (Wp 245 15 [some (pR 1), some (pI l1), some (pR 195), none] [] LY nx (h, r, s) Q ↔ Wp 245 16 [some (pR 1), some (pI l1), some (pR 195), none] [pI 0] LY nx (h, r, s) Q)) ∧
  (∀ (l1 : Int) (x0 : Int) (nx : Nat) (h r : PF) (s : Int → Int) (Q : PO → PY → Nat → PC → Prop), (Wp 245 16 [some (pR 1), some (pI l1), some (pR 195), none] [pI x0] LY nx (h, r, s) Q ↔ Q (Sum.inl (some (pI x0))) LY nx (h, r, s))) :=
  ⟨fun l1 nx h r s Q  => o_aload_n (by decide +kernel : pcode 245 0 = some (10, 2, 0, 0, 0)) rfl,
  fun l1 nx h r s Q  => o_iconst (by decide +kernel : pcode 245 1 = some (1, 0, 0, 0, 0)),
  fun l1 x1 nx h r s Q  => o_aload_n (by decide +kernel : pcode 245 2 = some (10, 0, 0, 0, 0)) rfl,
  fun l1 x1 nx h r s Q  => o_iload_n (by decide +kernel : pcode 245 3 = some (6, 1, 0, 0, 0)) rfl,
  fun l1 x1 x3 nx h r s Q  => o_ivV (s1 := [pI x3]) (s2 := [pI x1, pR 195]) (o := 1) (by decide +kernel : pcode 245 4 = some (78, 105, 2, 1040, 64)) rfl (Nat.le_of_ble_eq_true rfl) (by decide) (by decide +kernel) rfl rfl rfl,
  fun l1 x1 x2 nx h r s Q  => o_i2l (by decide +kernel : pcode 245 7 = some (35, 0, 0, 0, 0)),
  fun l1 x1 x2 nx h r s Q hi hn => o_last (h := (h, r, s)) (n := 1) (by decide +kernel : pcode 245 8 = some (66, 0, 0, 0, 0)) (by decide) (by decide +kernel) hi hn,
  fun l1 nx h r s Q  => o_goto (by decide +kernel : pcode 245 9 = some (53, 15, 0, 0, 6)),
  fun l1 nx h r s Q  => o_astore_n (by decide +kernel : pcode 245 12 = some (16, 3, 0, 0, 0)) rfl,
  fun l1 nx h r s Q  => o_iconst (by decide +kernel : pcode 245 13 = some (1, 0, 0, 0, 1)),
  fun l1 x0 nx h r s Q  => o_iret (by decide +kernel : pcode 245 14 = some (87, 0, 0, 0, 0)),
  fun l1 nx h r s Q  => o_iconst (by decide +kernel : pcode 245 15 = some (1, 0, 0, 0, 0)),
  fun l1 x0 nx h r s Q  => o_iret (by decide +kernel : pcode 245 16 = some (87, 0, 0, 0, 0))⟩
set_option maxHeartbeats 4000000 in
set_option maxRecDepth 10000 in
theorem st_L_shortestLetter :
  (∀ (l1 : Int) (l2 : Int) (nx : Nat) (h r : PF) (s : Int → Int) (Q : PO → PY → Nat → PC → Prop), (Wp 246 0 [some (pR 1), some (pI l1), some (pI l2), some (pR 195), none] [] LY nx (h, r, s) Q ↔ Wp 246 1 [some (pR 1), some (pI l1), some (pI l2), some (pR 195), none] [pR 195] LY nx (h, r, s) Q)) ∧
  (∀ (l1 : Int) (l2 : Int) (nx : Nat) (h r : PF) (s : Int → Int) (Q : PO → PY → Nat → PC → Prop), (Wp 246 1 [some (pR 1), some (pI l1), some (pI l2), some (pR 195), none] [pR 195] LY nx (h, r, s) Q ↔ Wp 246 2 [some (pR 1), some (pI l1), some (pI l2), some (pR 195), none] [pI 0, pR 195] LY nx (h, r, s) Q)) ∧
  (∀ (l1 : Int) (l2 : Int) (x1 : Int) (nx : Nat) (h r : PF) (s : Int → Int) (Q : PO → PY → Nat → PC → Prop), (Wp 246 2 [some (pR 1), some (pI l1), some (pI l2), some (pR 195), none] [pI x1, pR 195] LY nx (h, r, s) Q ↔ Wp 246 3 [some (pR 1), some (pI l1), some (pI l2), some (pR 195), none] [pR 1, pI x1, pR 195] LY nx (h, r, s) Q)) ∧
  (∀ (l1 : Int) (l2 : Int) (x1 : Int) (nx : Nat) (h r : PF) (s : Int → Int) (Q : PO → PY → Nat → PC → Prop), (Wp 246 3 [some (pR 1), some (pI l1), some (pI l2), some (pR 195), none] [pR 1, pI x1, pR 195] LY nx (h, r, s) Q ↔ Wp 246 4 [some (pR 1), some (pI l1), some (pI l2), some (pR 195), none] [pI l1, pR 1, pI x1, pR 195] LY nx (h, r, s) Q)) ∧
  (∀ (l1 : Int) (l2 : Int) (x1 : Int) (x3 : Int) (nx : Nat) (h r : PF) (s : Int → Int) (Q : PO → PY → Nat → PC → Prop), (Wp 246 4 [some (pR 1), some (pI l1), some (pI l2), some (pR 195), none] [pI x3, pR 1, pI x1, pR 195] LY nx (h, r, s) Q ↔ Wp 246 5 [some (pR 1), some (pI l1), some (pI l2), some (pR 195), none] [pI l2, pI x3, pR 1, pI x1, pR 195] LY nx (h, r, s) Q)) ∧
  (∀ (l1 : Int) (l2 : Int) (x1 : Int) (x3 : Int) (x4 : Int) (nx : Nat) (h r : PF) (s : Int → Int) (Q : PO → PY → Nat → PC → Prop), (Wp 246 5 [some (pR 1), some (pI l1), some (pI l2), some (pR 195), none] [pI x4, pI x3, pR 1, pI x1, pR 195] LY nx (h, r, s) Q ↔ Wp 106 0 [some (pR 1), some (pI x3), some (pI x4)] [] LY nx (h, r, s) (Kc 246 5 [some (pR 1), some (pI l1), some (pI l2), some (pR 195), none] 8 [pI x1, pR 195] Q))) ∧
  (∀ (l1 : Int) (l2 : Int) (x1 : Int) (x2 : Int) (nx : Nat) (h r : PF) (s : Int → Int) (Q : PO → PY → Nat → PC → Prop), (Wp 246 8 [some (pR 1), some (pI l1), some (pI l2), some (pR 195), none] [pI x2, pI x1, pR 195] LY nx (h, r, s) Q ↔ Wp 246 9 [some (pR 1), some (pI l1), some (pI l2), some (pR 195), none] [pJ x2, pI x1, pR 195] LY nx (h, r, s) Q)) ∧
  (∀ (l1 : Int) (l2 : Int) (x1 : Int) (x2 : Int) (nx : Nat) (h r : PF) (s : Int → Int) (Q : PO → PY → Nat → PC → Prop), 0 ≤ x1 → x1 < 1 → (Wp 246 9 [some (pR 1), some (pI l1), some (pI l2), some (pR 195), none] [pJ x2, pI x1, pR 195] LY nx (h, r, s) Q ↔ Wp 246 10 [some (pR 1), some (pI l1), some (pI l2), some (pR 195), none] [] LY nx (fup h 195 x1 x2, r, s) Q)) ∧
  (∀ (l1 : Int) (l2 : Int) (nx : Nat) (h r : PF) (s : Int → Int) (Q : PO → PY → Nat → PC → Prop), (Wp 246 10 [some (pR 1), some (pI l1), some (pI l2), some (pR 195), none] [] LY nx (h, r, s) Q ↔ Wp 246 17 [some (pR 1), some (pI l1), some (pI l2), some (pR 195), none] [] LY nx (h, r, s) Q)) ∧
  (∀ (l1 : Int) (l2 : Int) (nx : Nat) (h r : PF) (s : Int → Int) (Q : PO → PY → Nat → PC → Prop), (Wp 246 13 [some (pR 1), some (pI l1), some (pI l2), some (pR 195), none] [pR (-2000)] LY nx (h, r, s) Q ↔ Wp 246 15 [some (pR 1), some (pI l1), some (pI l2), some (pR 195), some (pR (-2000))] [] LY nx (h, r, s) Q)) ∧
  (∀ (l1 : Int) (l2 : Int) (nx : Nat) (h r : PF) (s : Int → Int) (Q : PO → PY → Nat → PC → Prop), (Wp 246 15 [some (pR 1), some (pI l1), some (pI l2), some (pR 195), some (pR (-2000))] [] LY nx (h, r, s) Q ↔ Wp 246 16 [some (pR 1), some (pI l1), some (pI l2), some (pR 195), some (pR (-2000))] [pI 1] LY nx (h, r, s) Q)) ∧
  (∀ (l1 : Int) (l2 : Int) (x0 : Int) (nx : Nat) (h r : PF) (s : Int → Int) (Q : PO → PY → Nat → PC → Prop), (Wp 246 16 [some (pR 1), some (pI l1), some (pI l2), some (pR 195), some (pR (-2000))] [pI x0] LY nx (h, r, s) Q ↔ Q (Sum.inl (some (pI x0))) LY nx (h, r, s))) ∧
  (∀ (l1 : Int) (l2 : Int) (nx : Nat) (h r : PF) (s : Int → Int) (Q : PO → PY → Nat → PC → Prop), (Wp 246 17 [some (pR 1), some (pI l1), some (pI l2), some (pR 195), none] [] LY nx (h, r, s) Q ↔ Wp 246 18 [some (pR 1), some (pI l1), some (pI l2), some (pR 195), none] [pI 0] LY nx (h, r, s) Q)) ∧
  (∀ (l1 : Int) (l2 : Int) (x0 : Int) (nx : Nat) (h r : PF) (s : Int → Int) (Q : PO → PY → Nat → PC → Prop), (Wp 246 18 [some (pR 1), some (pI l1), some (pI l2), some (pR 195), none] [pI x0] LY nx (h, r, s) Q ↔ Q (Sum.inl (some (pI x0))) LY nx (h, r, s))) :=
  ⟨fun l1 l2 nx h r s Q  => o_aload_n (by decide +kernel : pcode 246 0 = some (10, 3, 0, 0, 0)) rfl,
  fun l1 l2 nx h r s Q  => o_iconst (by decide +kernel : pcode 246 1 = some (1, 0, 0, 0, 0)),
  fun l1 l2 x1 nx h r s Q  => o_aload_n (by decide +kernel : pcode 246 2 = some (10, 0, 0, 0, 0)) rfl,
  fun l1 l2 x1 nx h r s Q  => o_iload_n (by decide +kernel : pcode 246 3 = some (6, 1, 0, 0, 0)) rfl,
  fun l1 l2 x1 x3 nx h r s Q  => o_iload_n (by decide +kernel : pcode 246 4 = some (6, 2, 0, 0, 0)) rfl,
  fun l1 l2 x1 x3 x4 nx h r s Q  => o_ivV (s1 := [pI x4, pI x3]) (s2 := [pI x1, pR 195]) (o := 1) (by decide +kernel : pcode 246 5 = some (78, 106, 3, 1055, 67)) rfl (Nat.le_of_ble_eq_true rfl) (by decide) (by decide +kernel) rfl rfl rfl,
  fun l1 l2 x1 x2 nx h r s Q  => o_i2l (by decide +kernel : pcode 246 8 = some (35, 0, 0, 0, 0)),
  fun l1 l2 x1 x2 nx h r s Q hi hn => o_last (h := (h, r, s)) (n := 1) (by decide +kernel : pcode 246 9 = some (66, 0, 0, 0, 0)) (by decide) (by decide +kernel) hi hn,
  fun l1 l2 nx h r s Q  => o_goto (by decide +kernel : pcode 246 10 = some (53, 17, 0, 0, 7)),
  fun l1 l2 nx h r s Q  => o_astore (by decide +kernel : pcode 246 13 = some (17, 4, 0, 0, 0)) rfl,
  fun l1 l2 nx h r s Q  => o_iconst (by decide +kernel : pcode 246 15 = some (1, 0, 0, 0, 1)),
  fun l1 l2 x0 nx h r s Q  => o_iret (by decide +kernel : pcode 246 16 = some (87, 0, 0, 0, 0)),
  fun l1 l2 nx h r s Q  => o_iconst (by decide +kernel : pcode 246 17 = some (1, 0, 0, 0, 0)),
  fun l1 l2 x0 nx h r s Q  => o_iret (by decide +kernel : pcode 246 18 = some (87, 0, 0, 0, 0))⟩
set_option maxHeartbeats 4000000 in
set_option maxRecDepth 10000 in
theorem st_L_differs :
  (∀ (l1 : Int) (l2 : Int) (nx : Nat) (h r : PF) (s : Int → Int) (Q : PO → PY → Nat → PC → Prop), (Wp 247 0 [some (pR 1), some (pI l1), some (pI l2), some (pR 195), none] [] LY nx (h, r, s) Q ↔ Wp 247 1 [some (pR 1), some (pI l1), some (pI l2), some (pR 195), none] [pR 195] LY nx (h, r, s) Q)) ∧
  (∀ (l1 : Int) (l2 : Int) (nx : Nat) (h r : PF) (s : Int → Int) (Q : PO → PY → Nat → PC → Prop), (Wp 247 1 [some (pR 1), some (pI l1), some (pI l2), some (pR 195), none] [pR 195] LY nx (h, r, s) Q ↔ Wp 247 2 [some (pR 1), some (pI l1), some (pI l2), some (pR 195), none] [pI 0, pR 195] LY nx (h, r, s) Q)) ∧
  (∀ (l1 : Int) (l2 : Int) (x1 : Int) (nx : Nat) (h r : PF) (s : Int → Int) (Q : PO → PY → Nat → PC → Prop), (Wp 247 2 [some (pR 1), some (pI l1), some (pI l2), some (pR 195), none] [pI x1, pR 195] LY nx (h, r, s) Q ↔ Wp 247 3 [some (pR 1), some (pI l1), some (pI l2), some (pR 195), none] [pR 1, pI x1, pR 195] LY nx (h, r, s) Q)) ∧
  (∀ (l1 : Int) (l2 : Int) (x1 : Int) (nx : Nat) (h r : PF) (s : Int → Int) (Q : PO → PY → Nat → PC → Prop), (Wp 247 3 [some (pR 1), some (pI l1), some (pI l2), some (pR 195), none] [pR 1, pI x1, pR 195] LY nx (h, r, s) Q ↔ Wp 247 4 [some (pR 1), some (pI l1), some (pI l2), some (pR 195), none] [pI l1, pR 1, pI x1, pR 195] LY nx (h, r, s) Q)) ∧
  (∀ (l1 : Int) (l2 : Int) (x1 : Int) (x3 : Int) (nx : Nat) (h r : PF) (s : Int → Int) (Q : PO → PY → Nat → PC → Prop), (Wp 247 4 [some (pR 1), some (pI l1), some (pI l2), some (pR 195), none] [pI x3, pR 1, pI x1, pR 195] LY nx (h, r, s) Q ↔ Wp 247 5 [some (pR 1), some (pI l1), some (pI l2), some (pR 195), none] [pI l2, pI x3, pR 1, pI x1, pR 195] LY nx (h, r, s) Q)) ∧
  (∀ (l1 : Int) (l2 : Int) (x1 : Int) (x3 : Int) (x4 : Int) (nx : Nat) (h r : PF) (s : Int → Int) (Q : PO → PY → Nat → PC → Prop), (Wp 247 5 [some (pR 1), some (pI l1), some (pI l2), some (pR 195), none] [pI x4, pI x3, pR 1, pI x1, pR 195] LY nx (h, r, s) Q ↔ Wp 107 0 [some (pR 1), some (pI x3), some (pI x4)] [] LY nx (h, r, s) (Kc 247 5 [some (pR 1), some (pI l1), some (pI l2), some (pR 195), none] 8 [pI x1, pR 195] Q))) ∧
  (∀ (l1 : Int) (l2 : Int) (x1 : Int) (x2 : Int) (nx : Nat) (h r : PF) (s : Int → Int) (Q : PO → PY → Nat → PC → Prop), (Wp 247 8 [some (pR 1), some (pI l1), some (pI l2), some (pR 195), none] [pI x2, pI x1, pR 195] LY nx (h, r, s) Q ↔ Wp 247 9 [some (pR 1), some (pI l1), some (pI l2), some (pR 195), none] [pJ x2, pI x1, pR 195] LY nx (h, r, s) Q)) ∧
  (∀ (l1 : Int) (l2 : Int) (x1 : Int) (x2 : Int) (nx : Nat) (h r : PF) (s : Int → Int) (Q : PO → PY → Nat → PC → Prop), 0 ≤ x1 → x1 < 1 → (Wp 247 9 [some (pR 1), some (pI l1), some (pI l2), some (pR 195), none] [pJ x2, pI x1, pR 195] LY nx (h, r, s) Q ↔ Wp 247 10 [some (pR 1), some (pI l1), some (pI l2), some (pR 195), none] [] LY nx (fup h 195 x1 x2, r, s) Q)) ∧
  (∀ (l1 : Int) (l2 : Int) (nx : Nat) (h r : PF) (s : Int → Int) (Q : PO → PY → Nat → PC → Prop), (Wp 247 10 [some (pR 1), some (pI l1), some (pI l2), some (pR 195), none] [] LY nx (h, r, s) Q ↔ Wp 247 17 [some (pR 1), some (pI l1), some (pI l2), some (pR 195), none] [] LY nx (h, r, s) Q)) ∧
  (∀ (l1 : Int) (l2 : Int) (nx : Nat) (h r : PF) (s : Int → Int) (Q : PO → PY → Nat → PC → Prop), (Wp 247 13 [some (pR 1), some (pI l1), some (pI l2), some (pR 195), none] [pR (-2000)] LY nx (h, r, s) Q ↔ Wp 247 15 [some (pR 1), some (pI l1), some (pI l2), some (pR 195), some (pR (-2000))] [] LY nx (h, r, s) Q)) ∧
  (∀ (l1 : Int) (l2 : Int) (nx : Nat) (h r : PF) (s : Int → Int) (Q : PO → PY → Nat → PC → Prop), (Wp 247 15 [some (pR 1), some (pI l1), some (pI l2), some (pR 195), some (pR (-2000))] [] LY nx (h, r, s) Q ↔ Wp 247 16 [some (pR 1), some (pI l1), some (pI l2), some (pR 195), some (pR (-2000))] [pI 1] LY nx (h, r, s) Q)) ∧
  (∀ (l1 : Int) (l2 : Int) (x0 : Int) (nx : Nat) (h r : PF) (s : Int → Int) (Q : PO → PY → Nat → PC → Prop), (Wp 247 16 [some (pR 1), some (pI l1), some (pI l2), some (pR 195), some (pR (-2000))] [pI x0] LY nx (h, r, s) Q ↔ Q (Sum.inl (some (pI x0))) LY nx (h, r, s))) ∧
  (∀ (l1 : Int) (l2 : Int) (nx : Nat) (h r : PF) (s : Int → Int) (Q : PO → PY → Nat → PC → Prop), (Wp 247 17 [some (pR 1), some (pI l1), some (pI l2), some (pR 195), none] [] LY nx (h, r, s) Q ↔ Wp 247 18 [some (pR 1), some (pI l1), some (pI l2), some (pR 195), none] [pI 0] LY nx (h, r, s) Q)) ∧
  (∀ (l1 : Int) (l2 : Int) (x0 : Int) (nx : Nat) (h r : PF) (s : Int → Int) (Q : PO → PY → Nat → PC → Prop), (Wp 247 18 [some (pR 1), some (pI l1), some (pI l2), some (pR 195), none] [pI x0] LY nx (h, r, s) Q ↔ Q (Sum.inl (some (pI x0))) LY nx (h, r, s))) :=
  ⟨fun l1 l2 nx h r s Q  => o_aload_n (by decide +kernel : pcode 247 0 = some (10, 3, 0, 0, 0)) rfl,
  fun l1 l2 nx h r s Q  => o_iconst (by decide +kernel : pcode 247 1 = some (1, 0, 0, 0, 0)),
  fun l1 l2 x1 nx h r s Q  => o_aload_n (by decide +kernel : pcode 247 2 = some (10, 0, 0, 0, 0)) rfl,
  fun l1 l2 x1 nx h r s Q  => o_iload_n (by decide +kernel : pcode 247 3 = some (6, 1, 0, 0, 0)) rfl,
  fun l1 l2 x1 x3 nx h r s Q  => o_iload_n (by decide +kernel : pcode 247 4 = some (6, 2, 0, 0, 0)) rfl,
  fun l1 l2 x1 x3 x4 nx h r s Q  => o_ivV (s1 := [pI x4, pI x3]) (s2 := [pI x1, pR 195]) (o := 1) (by decide +kernel : pcode 247 5 = some (78, 107, 3, 1066, 70)) rfl (Nat.le_of_ble_eq_true rfl) (by decide) (by decide +kernel) rfl rfl rfl,
  fun l1 l2 x1 x2 nx h r s Q  => o_i2l (by decide +kernel : pcode 247 8 = some (35, 0, 0, 0, 0)),
  fun l1 l2 x1 x2 nx h r s Q hi hn => o_last (h := (h, r, s)) (n := 1) (by decide +kernel : pcode 247 9 = some (66, 0, 0, 0, 0)) (by decide) (by decide +kernel) hi hn,
  fun l1 l2 nx h r s Q  => o_goto (by decide +kernel : pcode 247 10 = some (53, 17, 0, 0, 7)),
  fun l1 l2 nx h r s Q  => o_astore (by decide +kernel : pcode 247 13 = some (17, 4, 0, 0, 0)) rfl,
  fun l1 l2 nx h r s Q  => o_iconst (by decide +kernel : pcode 247 15 = some (1, 0, 0, 0, 1)),
  fun l1 l2 x0 nx h r s Q  => o_iret (by decide +kernel : pcode 247 16 = some (87, 0, 0, 0, 0)),
  fun l1 l2 nx h r s Q  => o_iconst (by decide +kernel : pcode 247 17 = some (1, 0, 0, 0, 0)),
  fun l1 l2 x0 nx h r s Q  => o_iret (by decide +kernel : pcode 247 18 = some (87, 0, 0, 0, 0))⟩
set_option maxHeartbeats 4000000 in
set_option maxRecDepth 10000 in
theorem st_L_log :
  (∀ (l1 : Int) (l2 : Int) (nx : Nat) (h r : PF) (s : Int → Int) (Q : PO → PY → Nat → PC → Prop), (Wp 248 0 [some (pR 1), some (pI l1), some (pI l2), some (pR 195), none] [] LY nx (h, r, s) Q ↔ Wp 248 1 [some (pR 1), some (pI l1), some (pI l2), some (pR 195), none] [pR 195] LY nx (h, r, s) Q)) ∧
  (∀ (l1 : Int) (l2 : Int) (nx : Nat) (h r : PF) (s : Int → Int) (Q : PO → PY → Nat → PC → Prop), (Wp 248 1 [some (pR 1), some (pI l1), some (pI l2), some (pR 195), none] [pR 195] LY nx (h, r, s) Q ↔ Wp 248 2 [some (pR 1), some (pI l1), some (pI l2), some (pR 195), none] [pI 0, pR 195] LY nx (h, r, s) Q)) ∧
  (∀ (l1 : Int) (l2 : Int) (x1 : Int) (nx : Nat) (h r : PF) (s : Int → Int) (Q : PO → PY → Nat → PC → Prop), (Wp 248 2 [some (pR 1), some (pI l1), some (pI l2), some (pR 195), none] [pI x1, pR 195] LY nx (h, r, s) Q ↔ Wp 248 3 [some (pR 1), some (pI l1), some (pI l2), some (pR 195), none] [pR 1, pI x1, pR 195] LY nx (h, r, s) Q)) ∧
  (∀ (l1 : Int) (l2 : Int) (x1 : Int) (nx : Nat) (h r : PF) (s : Int → Int) (Q : PO → PY → Nat → PC → Prop), (Wp 248 3 [some (pR 1), some (pI l1), some (pI l2), some (pR 195), none] [pR 1, pI x1, pR 195] LY nx (h, r, s) Q ↔ Wp 248 4 [some (pR 1), some (pI l1), some (pI l2), some (pR 195), none] [pI l1, pR 1, pI x1, pR 195] LY nx (h, r, s) Q)) ∧
  (∀ (l1 : Int) (l2 : Int) (x1 : Int) (x3 : Int) (nx : Nat) (h r : PF) (s : Int → Int) (Q : PO → PY → Nat → PC → Prop), (Wp 248 4 [some (pR 1), some (pI l1), some (pI l2), some (pR 195), none] [pI x3, pR 1, pI x1, pR 195] LY nx (h, r, s) Q ↔ Wp 248 5 [some (pR 1), some (pI l1), some (pI l2), some (pR 195), none] [pI l2, pI x3, pR 1, pI x1, pR 195] LY nx (h, r, s) Q)) ∧
  (∀ (l1 : Int) (l2 : Int) (x1 : Int) (x3 : Int) (x4 : Int) (nx : Nat) (h r : PF) (s : Int → Int) (Q : PO → PY → Nat → PC → Prop), (Wp 248 5 [some (pR 1), some (pI l1), some (pI l2), some (pR 195), none] [pI x4, pI x3, pR 1, pI x1, pR 195] LY nx (h, r, s) Q ↔ Wp 108 0 [some (pR 1), some (pI x3), some (pI x4)] [] LY nx (h, r, s) (Kc 248 5 [some (pR 1), some (pI l1), some (pI l2), some (pR 195), none] 8 [pI x1, pR 195] Q))) ∧
  (∀ (l1 : Int) (l2 : Int) (x1 : Int) (x2 : Int) (nx : Nat) (h r : PF) (s : Int → Int) (Q : PO → PY → Nat → PC → Prop), (Wp 248 8 [some (pR 1), some (pI l1), some (pI l2), some (pR 195), none] [pI x2, pI x1, pR 195] LY nx (h, r, s) Q ↔ Wp 248 9 [some (pR 1), some (pI l1), some (pI l2), some (pR 195), none] [pJ x2, pI x1, pR 195] LY nx (h, r, s) Q)) ∧
  (∀ (l1 : Int) (l2 : Int) (x1 : Int) (x2 : Int) (nx : Nat) (h r : PF) (s : Int → Int) (Q : PO → PY → Nat → PC → Prop), 0 ≤ x1 → x1 < 1 → (Wp 248 9 [some (pR 1), some (pI l1), some (pI l2), some (pR 195), none] [pJ x2, pI x1, pR 195] LY nx (h, r, s) Q ↔ Wp 248 10 [some (pR 1), some (pI l1), some (pI l2), some (pR 195), none] [] LY nx (fup h 195 x1 x2, r, s) Q)) ∧
  (∀ (l1 : Int) (l2 : Int) (nx : Nat) (h r : PF) (s : Int → Int) (Q : PO → PY → Nat → PC → Prop), (Wp 248 10 [some (pR 1), some (pI l1), some (pI l2), some (pR 195), none] [] LY nx (h, r, s) Q ↔ Wp 248 17 [some (pR 1), some (pI l1), some (pI l2), some (pR 195), none] [] LY nx (h, r, s) Q)) ∧
  (∀ (l1 : Int) (l2 : Int) (nx : Nat) (h r : PF) (s : Int → Int) (Q : PO → PY → Nat → PC → Prop), (Wp 248 13 [some (pR 1), some (pI l1), some (pI l2), some (pR 195), none] [pR (-2000)] LY nx (h, r, s) Q ↔ Wp 248 15 [some (pR 1), some (pI l1), some (pI l2), some (pR 195), some (pR (-2000))] [] LY nx (h, r, s) Q)) ∧
  (∀ (l1 : Int) (l2 : Int) (nx : Nat) (h r : PF) (s : Int → Int) (Q : PO → PY → Nat → PC → Prop), (Wp 248 15 [some (pR 1), some (pI l1), some (pI l2), some (pR 195), some (pR (-2000))] [] LY nx (h, r, s) Q ↔ Wp 248 16 [some (pR 1), some (pI l1), some (pI l2), some (pR 195), some (pR (-2000))] [pI 1] LY nx (h, r, s) Q)) ∧
  (∀ (l1 : Int) (l2 : Int) (x0 : Int) (nx : Nat) (h r : PF) (s : Int → Int) (Q : PO → PY → Nat → PC → Prop), (Wp 248 16 [some (pR 1), some (pI l1), some (pI l2), some (pR 195), some (pR (-2000))] [pI x0] LY nx (h, r, s) Q ↔ Q (Sum.inl (some (pI x0))) LY nx (h, r, s))) ∧
  (∀ (l1 : Int) (l2 : Int) (nx : Nat) (h r : PF) (s : Int → Int) (Q : PO → PY → Nat → PC → Prop), (Wp 248 17 [some (pR 1), some (pI l1), some (pI l2), some (pR 195), none] [] LY nx (h, r, s) Q ↔ Wp 248 18 [some (pR 1), some (pI l1), some (pI l2), some (pR 195), none] [pI 0] LY nx (h, r, s) Q)) ∧
  (∀ (l1 : Int) (l2 : Int) (x0 : Int) (nx : Nat) (h r : PF) (s : Int → Int) (Q : PO → PY → Nat → PC → Prop), (Wp 248 18 [some (pR 1), some (pI l1), some (pI l2), some (pR 195), none] [pI x0] LY nx (h, r, s) Q ↔ Q (Sum.inl (some (pI x0))) LY nx (h, r, s))) :=
  ⟨fun l1 l2 nx h r s Q  => o_aload_n (by decide +kernel : pcode 248 0 = some (10, 3, 0, 0, 0)) rfl,
  fun l1 l2 nx h r s Q  => o_iconst (by decide +kernel : pcode 248 1 = some (1, 0, 0, 0, 0)),
  fun l1 l2 x1 nx h r s Q  => o_aload_n (by decide +kernel : pcode 248 2 = some (10, 0, 0, 0, 0)) rfl,
  fun l1 l2 x1 nx h r s Q  => o_iload_n (by decide +kernel : pcode 248 3 = some (6, 1, 0, 0, 0)) rfl,
  fun l1 l2 x1 x3 nx h r s Q  => o_iload_n (by decide +kernel : pcode 248 4 = some (6, 2, 0, 0, 0)) rfl,
  fun l1 l2 x1 x3 x4 nx h r s Q  => o_ivV (s1 := [pI x4, pI x3]) (s2 := [pI x1, pR 195]) (o := 1) (by decide +kernel : pcode 248 5 = some (78, 108, 3, 1077, 73)) rfl (Nat.le_of_ble_eq_true rfl) (by decide) (by decide +kernel) rfl rfl rfl,
  fun l1 l2 x1 x2 nx h r s Q  => o_i2l (by decide +kernel : pcode 248 8 = some (35, 0, 0, 0, 0)),
  fun l1 l2 x1 x2 nx h r s Q hi hn => o_last (h := (h, r, s)) (n := 1) (by decide +kernel : pcode 248 9 = some (66, 0, 0, 0, 0)) (by decide) (by decide +kernel) hi hn,
  fun l1 l2 nx h r s Q  => o_goto (by decide +kernel : pcode 248 10 = some (53, 17, 0, 0, 7)),
  fun l1 l2 nx h r s Q  => o_astore (by decide +kernel : pcode 248 13 = some (17, 4, 0, 0, 0)) rfl,
  fun l1 l2 nx h r s Q  => o_iconst (by decide +kernel : pcode 248 15 = some (1, 0, 0, 0, 1)),
  fun l1 l2 x0 nx h r s Q  => o_iret (by decide +kernel : pcode 248 16 = some (87, 0, 0, 0, 0)),
  fun l1 l2 nx h r s Q  => o_iconst (by decide +kernel : pcode 248 17 = some (1, 0, 0, 0, 0)),
  fun l1 l2 x0 nx h r s Q  => o_iret (by decide +kernel : pcode 248 18 = some (87, 0, 0, 0, 0))⟩
set_option maxHeartbeats 4000000 in
set_option maxRecDepth 10000 in
theorem st_L_account :
  (∀ (l1 : Int) (nx : Nat) (h r : PF) (s : Int → Int) (Q : PO → PY → Nat → PC → Prop), (Wp 249 0 [some (pR 1), some (pI l1), some (pR 195), none] [] LY nx (h, r, s) Q ↔ Wp 249 1 [some (pR 1), some (pI l1), some (pR 195), none] [pR 195] LY nx (h, r, s) Q)) ∧
  (∀ (l1 : Int) (nx : Nat) (h r : PF) (s : Int → Int) (Q : PO → PY → Nat → PC → Prop), (Wp 249 1 [some (pR 1), some (pI l1), some (pR 195), none] [pR 195] LY nx (h, r, s) Q ↔ Wp 249 2 [some (pR 1), some (pI l1), some (pR 195), none] [pI 0, pR 195] LY nx (h, r, s) Q)) ∧
  (∀ (l1 : Int) (x1 : Int) (nx : Nat) (h r : PF) (s : Int → Int) (Q : PO → PY → Nat → PC → Prop), (Wp 249 2 [some (pR 1), some (pI l1), some (pR 195), none] [pI x1, pR 195] LY nx (h, r, s) Q ↔ Wp 249 3 [some (pR 1), some (pI l1), some (pR 195), none] [pR 1, pI x1, pR 195] LY nx (h, r, s) Q)) ∧
  (∀ (l1 : Int) (x1 : Int) (nx : Nat) (h r : PF) (s : Int → Int) (Q : PO → PY → Nat → PC → Prop), (Wp 249 3 [some (pR 1), some (pI l1), some (pR 195), none] [pR 1, pI x1, pR 195] LY nx (h, r, s) Q ↔ Wp 249 4 [some (pR 1), some (pI l1), some (pR 195), none] [pI l1, pR 1, pI x1, pR 195] LY nx (h, r, s) Q)) ∧
  (∀ (l1 : Int) (x1 : Int) (x3 : Int) (nx : Nat) (h r : PF) (s : Int → Int) (Q : PO → PY → Nat → PC → Prop), (Wp 249 4 [some (pR 1), some (pI l1), some (pR 195), none] [pI x3, pR 1, pI x1, pR 195] LY nx (h, r, s) Q ↔ Wp 109 0 [some (pR 1), some (pI x3)] [] LY nx (h, r, s) (Kc 249 4 [some (pR 1), some (pI l1), some (pR 195), none] 7 [pI x1, pR 195] Q))) ∧
  (∀ (l1 : Int) (x1 : Int) (x2 : Int) (nx : Nat) (h r : PF) (s : Int → Int) (Q : PO → PY → Nat → PC → Prop), (Wp 249 7 [some (pR 1), some (pI l1), some (pR 195), none] [pI x2, pI x1, pR 195] LY nx (h, r, s) Q ↔ Wp 249 8 [some (pR 1), some (pI l1), some (pR 195), none] [pJ x2, pI x1, pR 195] LY nx (h, r, s) Q)) ∧
  (∀ (l1 : Int) (x1 : Int) (x2 : Int) (nx : Nat) (h r : PF) (s : Int → Int) (Q : PO → PY → Nat → PC → Prop), 0 ≤ x1 → x1 < 1 → (Wp 249 8 [some (pR 1), some (pI l1), some (pR 195), none] [pJ x2, pI x1, pR 195] LY nx (h, r, s) Q ↔ Wp 249 9 [some (pR 1), some (pI l1), some (pR 195), none] [] LY nx (fup h 195 x1 x2, r, s) Q)) ∧
  (∀ (l1 : Int) (nx : Nat) (h r : PF) (s : Int → Int) (Q : PO → PY → Nat → PC → Prop), (Wp 249 9 [some (pR 1), some (pI l1), some (pR 195), none] [] LY nx (h, r, s) Q ↔ Wp 249 15 [some (pR 1), some (pI l1), some (pR 195), none] [] LY nx (h, r, s) Q)) ∧
  (∀ (l1 : Int) (nx : Nat) (h r : PF) (s : Int → Int) (Q : PO → PY → Nat → PC → Prop), (Wp 249 12 [some (pR 1), some (pI l1), some (pR 195), none] [pR (-2000)] LY nx (h, r, s) Q ↔ Wp 249 13 [some (pR 1), some (pI l1), some (pR 195), some (pR (-2000))] [] LY nx (h, r, s) Q)) ∧
  (∀ (l1 : Int) (nx : Nat) (h r : PF) (s : Int → Int) (Q : PO → PY → Nat → PC → Prop), (Wp 249 13 [some (pR 1), some (pI l1), some (pR 195), some (pR (-2000))] [] LY nx (h, r, s) Q ↔ Wp 249 14 [some (pR 1), some (pI l1), some (pR 195), some (pR (-2000))] [pI 1] LY nx (h, r, s) Q)) ∧
  (∀ (l1 : Int) (x0 : Int) (nx : Nat) (h r : PF) (s : Int → Int) (Q : PO → PY → Nat → PC → Prop), (Wp 249 14 [some (pR 1), some (pI l1), some (pR 195), some (pR (-2000))] [pI x0] LY nx (h, r, s) Q ↔ Q (Sum.inl (some (pI x0))) LY nx (h, r, s))) ∧
  (∀ (l1 : Int) (nx : Nat) (h r : PF) (s : Int → Int) (Q : PO → PY → Nat → PC → Prop), (Wp 249 15 [some (pR 1), some (pI l1), some (pR 195), none] [] LY nx (h, r, s) Q ↔ Wp 249 16 [some (pR 1), some (pI l1), some (pR 195), none] [pI 0] LY nx (h, r, s) Q)) ∧
  (∀ (l1 : Int) (x0 : Int) (nx : Nat) (h r : PF) (s : Int → Int) (Q : PO → PY → Nat → PC → Prop), (Wp 249 16 [some (pR 1), some (pI l1), some (pR 195), none] [pI x0] LY nx (h, r, s) Q ↔ Q (Sum.inl (some (pI x0))) LY nx (h, r, s))) :=
  ⟨fun l1 nx h r s Q  => o_aload_n (by decide +kernel : pcode 249 0 = some (10, 2, 0, 0, 0)) rfl,
  fun l1 nx h r s Q  => o_iconst (by decide +kernel : pcode 249 1 = some (1, 0, 0, 0, 0)),
  fun l1 x1 nx h r s Q  => o_aload_n (by decide +kernel : pcode 249 2 = some (10, 0, 0, 0, 0)) rfl,
  fun l1 x1 nx h r s Q  => o_iload_n (by decide +kernel : pcode 249 3 = some (6, 1, 0, 0, 0)) rfl,
  fun l1 x1 x3 nx h r s Q  => o_ivV (s1 := [pI x3]) (s2 := [pI x1, pR 195]) (o := 1) (by decide +kernel : pcode 249 4 = some (78, 109, 2, 1088, 76)) rfl (Nat.le_of_ble_eq_true rfl) (by decide) (by decide +kernel) rfl rfl rfl,
  fun l1 x1 x2 nx h r s Q  => o_i2l (by decide +kernel : pcode 249 7 = some (35, 0, 0, 0, 0)),
  fun l1 x1 x2 nx h r s Q hi hn => o_last (h := (h, r, s)) (n := 1) (by decide +kernel : pcode 249 8 = some (66, 0, 0, 0, 0)) (by decide) (by decide +kernel) hi hn,
  fun l1 nx h r s Q  => o_goto (by decide +kernel : pcode 249 9 = some (53, 15, 0, 0, 6)),
  fun l1 nx h r s Q  => o_astore_n (by decide +kernel : pcode 249 12 = some (16, 3, 0, 0, 0)) rfl,
  fun l1 nx h r s Q  => o_iconst (by decide +kernel : pcode 249 13 = some (1, 0, 0, 0, 1)),
  fun l1 x0 nx h r s Q  => o_iret (by decide +kernel : pcode 249 14 = some (87, 0, 0, 0, 0)),
  fun l1 nx h r s Q  => o_iconst (by decide +kernel : pcode 249 15 = some (1, 0, 0, 0, 0)),
  fun l1 x0 nx h r s Q  => o_iret (by decide +kernel : pcode 249 16 = some (87, 0, 0, 0, 0))⟩
set_option maxHeartbeats 4000000 in
set_option maxRecDepth 10000 in
theorem st_L_play :
  (∀ (l1 : Int) (nx : Nat) (h r : PF) (s : Int → Int) (Q : PO → PY → Nat → PC → Prop), (Wp 250 0 [some (pR 1), some (pI l1), some (pR 195), none] [] LY nx (h, r, s) Q ↔ Wp 250 1 [some (pR 1), some (pI l1), some (pR 195), none] [pR 195] LY nx (h, r, s) Q)) ∧
  (∀ (l1 : Int) (nx : Nat) (h r : PF) (s : Int → Int) (Q : PO → PY → Nat → PC → Prop), (Wp 250 1 [some (pR 1), some (pI l1), some (pR 195), none] [pR 195] LY nx (h, r, s) Q ↔ Wp 250 2 [some (pR 1), some (pI l1), some (pR 195), none] [pI 0, pR 195] LY nx (h, r, s) Q)) ∧
  (∀ (l1 : Int) (x1 : Int) (nx : Nat) (h r : PF) (s : Int → Int) (Q : PO → PY → Nat → PC → Prop), (Wp 250 2 [some (pR 1), some (pI l1), some (pR 195), none] [pI x1, pR 195] LY nx (h, r, s) Q ↔ Wp 250 3 [some (pR 1), some (pI l1), some (pR 195), none] [pR 1, pI x1, pR 195] LY nx (h, r, s) Q)) ∧
  (∀ (l1 : Int) (x1 : Int) (nx : Nat) (h r : PF) (s : Int → Int) (Q : PO → PY → Nat → PC → Prop), (Wp 250 3 [some (pR 1), some (pI l1), some (pR 195), none] [pR 1, pI x1, pR 195] LY nx (h, r, s) Q ↔ Wp 250 4 [some (pR 1), some (pI l1), some (pR 195), none] [pI l1, pR 1, pI x1, pR 195] LY nx (h, r, s) Q)) ∧
  (∀ (l1 : Int) (x1 : Int) (x3 : Int) (nx : Nat) (h r : PF) (s : Int → Int) (Q : PO → PY → Nat → PC → Prop), (Wp 250 4 [some (pR 1), some (pI l1), some (pR 195), none] [pI x3, pR 1, pI x1, pR 195] LY nx (h, r, s) Q ↔ Wp 110 0 [some (pR 1), some (pI x3)] [] LY nx (h, r, s) (Kc 250 4 [some (pR 1), some (pI l1), some (pR 195), none] 7 [pI x1, pR 195] Q))) ∧
  (∀ (l1 : Int) (x1 : Int) (x2 : Int) (nx : Nat) (h r : PF) (s : Int → Int) (Q : PO → PY → Nat → PC → Prop), (Wp 250 7 [some (pR 1), some (pI l1), some (pR 195), none] [pI x2, pI x1, pR 195] LY nx (h, r, s) Q ↔ Wp 250 8 [some (pR 1), some (pI l1), some (pR 195), none] [pJ x2, pI x1, pR 195] LY nx (h, r, s) Q)) ∧
  (∀ (l1 : Int) (x1 : Int) (x2 : Int) (nx : Nat) (h r : PF) (s : Int → Int) (Q : PO → PY → Nat → PC → Prop), 0 ≤ x1 → x1 < 1 → (Wp 250 8 [some (pR 1), some (pI l1), some (pR 195), none] [pJ x2, pI x1, pR 195] LY nx (h, r, s) Q ↔ Wp 250 9 [some (pR 1), some (pI l1), some (pR 195), none] [] LY nx (fup h 195 x1 x2, r, s) Q)) ∧
  (∀ (l1 : Int) (nx : Nat) (h r : PF) (s : Int → Int) (Q : PO → PY → Nat → PC → Prop), (Wp 250 9 [some (pR 1), some (pI l1), some (pR 195), none] [] LY nx (h, r, s) Q ↔ Wp 250 18 [some (pR 1), some (pI l1), some (pR 195), none] [] LY nx (h, r, s) Q)) ∧
  (∀ (l1 : Int) (nx : Nat) (h r : PF) (s : Int → Int) (Q : PO → PY → Nat → PC → Prop), (Wp 250 12 [some (pR 1), some (pI l1), some (pR 195), none] [pR (-2000)] LY nx (h, r, s) Q ↔ Wp 250 13 [some (pR 1), some (pI l1), some (pR 195), some (pR (-2000))] [] LY nx (h, r, s) Q)) ∧
  (∀ (l1 : Int) (nx : Nat) (h r : PF) (s : Int → Int) (Q : PO → PY → Nat → PC → Prop), (Wp 250 13 [some (pR 1), some (pI l1), some (pR 195), some (pR (-2000))] [] LY nx (h, r, s) Q ↔ Wp 250 14 [some (pR 1), some (pI l1), some (pR 195), some (pR (-2000))] [pI 1] LY nx (h, r, s) Q)) ∧
  (∀ (l1 : Int) (x0 : Int) (nx : Nat) (h r : PF) (s : Int → Int) (Q : PO → PY → Nat → PC → Prop), (Wp 250 14 [some (pR 1), some (pI l1), some (pR 195), some (pR (-2000))] [pI x0] LY nx (h, r, s) Q ↔ Q (Sum.inl (some (pI x0))) LY nx (h, r, s))) ∧
  (∀ (l1 : Int) (nx : Nat) (h r : PF) (s : Int → Int) (Q : PO → PY → Nat → PC → Prop), (Wp 250 15 [some (pR 1), some (pI l1), some (pR 195), none] [pR (-2000)] LY nx (h, r, s) Q ↔ Wp 250 16 [some (pR 1), some (pI l1), some (pR 195), some (pR (-2000))] [] LY nx (h, r, s) Q)) ∧
  (∀ (l1 : Int) (nx : Nat) (h r : PF) (s : Int → Int) (Q : PO → PY → Nat → PC → Prop), (Wp 250 16 [some (pR 1), some (pI l1), some (pR 195), some (pR (-2000))] [] LY nx (h, r, s) Q ↔ Wp 250 17 [some (pR 1), some (pI l1), some (pR 195), some (pR (-2000))] [pI 2] LY nx (h, r, s) Q)) ∧
  (∀ (l1 : Int) (x0 : Int) (nx : Nat) (h r : PF) (s : Int → Int) (Q : PO → PY → Nat → PC → Prop), (Wp 250 17 [some (pR 1), some (pI l1), some (pR 195), some (pR (-2000))] [pI x0] LY nx (h, r, s) Q ↔ Q (Sum.inl (some (pI x0))) LY nx (h, r, s))) ∧
  (∀ (l1 : Int) (nx : Nat) (h r : PF) (s : Int → Int) (Q : PO → PY → Nat → PC → Prop), (Wp 250 18 [some (pR 1), some (pI l1), some (pR 195), none] [] LY nx (h, r, s) Q ↔ Wp 250 19 [some (pR 1), some (pI l1), some (pR 195), none] [pI 0] LY nx (h, r, s) Q)) ∧
  (∀ (l1 : Int) (x0 : Int) (nx : Nat) (h r : PF) (s : Int → Int) (Q : PO → PY → Nat → PC → Prop), (Wp 250 19 [some (pR 1), some (pI l1), some (pR 195), none] [pI x0] LY nx (h, r, s) Q ↔ Q (Sum.inl (some (pI x0))) LY nx (h, r, s))) :=
  ⟨fun l1 nx h r s Q  => o_aload_n (by decide +kernel : pcode 250 0 = some (10, 2, 0, 0, 0)) rfl,
  fun l1 nx h r s Q  => o_iconst (by decide +kernel : pcode 250 1 = some (1, 0, 0, 0, 0)),
  fun l1 x1 nx h r s Q  => o_aload_n (by decide +kernel : pcode 250 2 = some (10, 0, 0, 0, 0)) rfl,
  fun l1 x1 nx h r s Q  => o_iload_n (by decide +kernel : pcode 250 3 = some (6, 1, 0, 0, 0)) rfl,
  fun l1 x1 x3 nx h r s Q  => o_ivV (s1 := [pI x3]) (s2 := [pI x1, pR 195]) (o := 1) (by decide +kernel : pcode 250 4 = some (78, 110, 2, 1096, 79)) rfl (Nat.le_of_ble_eq_true rfl) (by decide) (by decide +kernel) rfl rfl rfl,
  fun l1 x1 x2 nx h r s Q  => o_i2l (by decide +kernel : pcode 250 7 = some (35, 0, 0, 0, 0)),
  fun l1 x1 x2 nx h r s Q hi hn => o_last (h := (h, r, s)) (n := 1) (by decide +kernel : pcode 250 8 = some (66, 0, 0, 0, 0)) (by decide) (by decide +kernel) hi hn,
  fun l1 nx h r s Q  => o_goto (by decide +kernel : pcode 250 9 = some (53, 18, 0, 0, 9)),
  fun l1 nx h r s Q  => o_astore_n (by decide +kernel : pcode 250 12 = some (16, 3, 0, 0, 0)) rfl,
  fun l1 nx h r s Q  => o_iconst (by decide +kernel : pcode 250 13 = some (1, 0, 0, 0, 1)),
  fun l1 x0 nx h r s Q  => o_iret (by decide +kernel : pcode 250 14 = some (87, 0, 0, 0, 0)),
  fun l1 nx h r s Q  => o_astore_n (by decide +kernel : pcode 250 15 = some (16, 3, 0, 0, 0)) rfl,
  fun l1 nx h r s Q  => o_iconst (by decide +kernel : pcode 250 16 = some (1, 0, 0, 0, 2)),
  fun l1 x0 nx h r s Q  => o_iret (by decide +kernel : pcode 250 17 = some (87, 0, 0, 0, 0)),
  fun l1 nx h r s Q  => o_iconst (by decide +kernel : pcode 250 18 = some (1, 0, 0, 0, 0)),
  fun l1 x0 nx h r s Q  => o_iret (by decide +kernel : pcode 250 19 = some (87, 0, 0, 0, 0))⟩
set_option maxHeartbeats 4000000 in
set_option maxRecDepth 10000 in
theorem st_L_buy :
  (∀ (l1 : Int) (l2 : Int) (nx : Nat) (h r : PF) (s : Int → Int) (Q : PO → PY → Nat → PC → Prop), (Wp 251 0 [some (pR 1), some (pI l1), some (pI l2), some (pR 195), none] [] LY nx (h, r, s) Q ↔ Wp 251 1 [some (pR 1), some (pI l1), some (pI l2), some (pR 195), none] [pR 195] LY nx (h, r, s) Q)) ∧
  (∀ (l1 : Int) (l2 : Int) (nx : Nat) (h r : PF) (s : Int → Int) (Q : PO → PY → Nat → PC → Prop), (Wp 251 1 [some (pR 1), some (pI l1), some (pI l2), some (pR 195), none] [pR 195] LY nx (h, r, s) Q ↔ Wp 251 2 [some (pR 1), some (pI l1), some (pI l2), some (pR 195), none] [pI 0, pR 195] LY nx (h, r, s) Q)) ∧
  (∀ (l1 : Int) (l2 : Int) (x1 : Int) (nx : Nat) (h r : PF) (s : Int → Int) (Q : PO → PY → Nat → PC → Prop), (Wp 251 2 [some (pR 1), some (pI l1), some (pI l2), some (pR 195), none] [pI x1, pR 195] LY nx (h, r, s) Q ↔ Wp 251 3 [some (pR 1), some (pI l1), some (pI l2), some (pR 195), none] [pR 1, pI x1, pR 195] LY nx (h, r, s) Q)) ∧
  (∀ (l1 : Int) (l2 : Int) (x1 : Int) (nx : Nat) (h r : PF) (s : Int → Int) (Q : PO → PY → Nat → PC → Prop), (Wp 251 3 [some (pR 1), some (pI l1), some (pI l2), some (pR 195), none] [pR 1, pI x1, pR 195] LY nx (h, r, s) Q ↔ Wp 251 4 [some (pR 1), some (pI l1), some (pI l2), some (pR 195), none] [pI l1, pR 1, pI x1, pR 195] LY nx (h, r, s) Q)) ∧
  (∀ (l1 : Int) (l2 : Int) (x1 : Int) (x3 : Int) (nx : Nat) (h r : PF) (s : Int → Int) (Q : PO → PY → Nat → PC → Prop), (Wp 251 4 [some (pR 1), some (pI l1), some (pI l2), some (pR 195), none] [pI x3, pR 1, pI x1, pR 195] LY nx (h, r, s) Q ↔ Wp 251 5 [some (pR 1), some (pI l1), some (pI l2), some (pR 195), none] [pI l2, pI x3, pR 1, pI x1, pR 195] LY nx (h, r, s) Q)) ∧
  (∀ (l1 : Int) (l2 : Int) (x1 : Int) (x3 : Int) (x4 : Int) (nx : Nat) (h r : PF) (s : Int → Int) (Q : PO → PY → Nat → PC → Prop), (Wp 251 5 [some (pR 1), some (pI l1), some (pI l2), some (pR 195), none] [pI x4, pI x3, pR 1, pI x1, pR 195] LY nx (h, r, s) Q ↔ Wp 111 0 [some (pR 1), some (pI x3), some (pI x4), none] [] LY nx (h, r, s) (Kc 251 5 [some (pR 1), some (pI l1), some (pI l2), some (pR 195), none] 8 [pI x1, pR 195] Q))) ∧
  (∀ (l1 : Int) (l2 : Int) (x1 : Int) (x2 : Int) (nx : Nat) (h r : PF) (s : Int → Int) (Q : PO → PY → Nat → PC → Prop), (Wp 251 8 [some (pR 1), some (pI l1), some (pI l2), some (pR 195), none] [pI x2, pI x1, pR 195] LY nx (h, r, s) Q ↔ Wp 251 9 [some (pR 1), some (pI l1), some (pI l2), some (pR 195), none] [pJ x2, pI x1, pR 195] LY nx (h, r, s) Q)) ∧
  (∀ (l1 : Int) (l2 : Int) (x1 : Int) (x2 : Int) (nx : Nat) (h r : PF) (s : Int → Int) (Q : PO → PY → Nat → PC → Prop), 0 ≤ x1 → x1 < 1 → (Wp 251 9 [some (pR 1), some (pI l1), some (pI l2), some (pR 195), none] [pJ x2, pI x1, pR 195] LY nx (h, r, s) Q ↔ Wp 251 10 [some (pR 1), some (pI l1), some (pI l2), some (pR 195), none] [] LY nx (fup h 195 x1 x2, r, s) Q)) ∧
  (∀ (l1 : Int) (l2 : Int) (nx : Nat) (h r : PF) (s : Int → Int) (Q : PO → PY → Nat → PC → Prop), (Wp 251 10 [some (pR 1), some (pI l1), some (pI l2), some (pR 195), none] [] LY nx (h, r, s) Q ↔ Wp 251 21 [some (pR 1), some (pI l1), some (pI l2), some (pR 195), none] [] LY nx (h, r, s) Q)) ∧
  (∀ (l1 : Int) (l2 : Int) (nx : Nat) (h r : PF) (s : Int → Int) (Q : PO → PY → Nat → PC → Prop), (Wp 251 13 [some (pR 1), some (pI l1), some (pI l2), some (pR 195), none] [pR (-2000)] LY nx (h, r, s) Q ↔ Wp 251 15 [some (pR 1), some (pI l1), some (pI l2), some (pR 195), some (pR (-2000))] [] LY nx (h, r, s) Q)) ∧
  (∀ (l1 : Int) (l2 : Int) (nx : Nat) (h r : PF) (s : Int → Int) (Q : PO → PY → Nat → PC → Prop), (Wp 251 15 [some (pR 1), some (pI l1), some (pI l2), some (pR 195), some (pR (-2000))] [] LY nx (h, r, s) Q ↔ Wp 251 16 [some (pR 1), some (pI l1), some (pI l2), some (pR 195), some (pR (-2000))] [pI 1] LY nx (h, r, s) Q)) ∧
  (∀ (l1 : Int) (l2 : Int) (x0 : Int) (nx : Nat) (h r : PF) (s : Int → Int) (Q : PO → PY → Nat → PC → Prop), (Wp 251 16 [some (pR 1), some (pI l1), some (pI l2), some (pR 195), some (pR (-2000))] [pI x0] LY nx (h, r, s) Q ↔ Q (Sum.inl (some (pI x0))) LY nx (h, r, s))) ∧
  (∀ (l1 : Int) (l2 : Int) (nx : Nat) (h r : PF) (s : Int → Int) (Q : PO → PY → Nat → PC → Prop), (Wp 251 17 [some (pR 1), some (pI l1), some (pI l2), some (pR 195), none] [pR (-2000)] LY nx (h, r, s) Q ↔ Wp 251 19 [some (pR 1), some (pI l1), some (pI l2), some (pR 195), some (pR (-2000))] [] LY nx (h, r, s) Q)) ∧
  (∀ (l1 : Int) (l2 : Int) (nx : Nat) (h r : PF) (s : Int → Int) (Q : PO → PY → Nat → PC → Prop), (Wp 251 19 [some (pR 1), some (pI l1), some (pI l2), some (pR 195), some (pR (-2000))] [] LY nx (h, r, s) Q ↔ Wp 251 20 [some (pR 1), some (pI l1), some (pI l2), some (pR 195), some (pR (-2000))] [pI 2] LY nx (h, r, s) Q)) ∧
  (∀ (l1 : Int) (l2 : Int) (x0 : Int) (nx : Nat) (h r : PF) (s : Int → Int) (Q : PO → PY → Nat → PC → Prop), (Wp 251 20 [some (pR 1), some (pI l1), some (pI l2), some (pR 195), some (pR (-2000))] [pI x0] LY nx (h, r, s) Q ↔ Q (Sum.inl (some (pI x0))) LY nx (h, r, s))) ∧
  (∀ (l1 : Int) (l2 : Int) (nx : Nat) (h r : PF) (s : Int → Int) (Q : PO → PY → Nat → PC → Prop), (Wp 251 21 [some (pR 1), some (pI l1), some (pI l2), some (pR 195), none] [] LY nx (h, r, s) Q ↔ Wp 251 22 [some (pR 1), some (pI l1), some (pI l2), some (pR 195), none] [pI 0] LY nx (h, r, s) Q)) ∧
  (∀ (l1 : Int) (l2 : Int) (x0 : Int) (nx : Nat) (h r : PF) (s : Int → Int) (Q : PO → PY → Nat → PC → Prop), (Wp 251 22 [some (pR 1), some (pI l1), some (pI l2), some (pR 195), none] [pI x0] LY nx (h, r, s) Q ↔ Q (Sum.inl (some (pI x0))) LY nx (h, r, s))) :=
  ⟨fun l1 l2 nx h r s Q  => o_aload_n (by decide +kernel : pcode 251 0 = some (10, 3, 0, 0, 0)) rfl,
  fun l1 l2 nx h r s Q  => o_iconst (by decide +kernel : pcode 251 1 = some (1, 0, 0, 0, 0)),
  fun l1 l2 x1 nx h r s Q  => o_aload_n (by decide +kernel : pcode 251 2 = some (10, 0, 0, 0, 0)) rfl,
  fun l1 l2 x1 nx h r s Q  => o_iload_n (by decide +kernel : pcode 251 3 = some (6, 1, 0, 0, 0)) rfl,
  fun l1 l2 x1 x3 nx h r s Q  => o_iload_n (by decide +kernel : pcode 251 4 = some (6, 2, 0, 0, 0)) rfl,
  fun l1 l2 x1 x3 x4 nx h r s Q  => o_ivV (s1 := [pI x4, pI x3]) (s2 := [pI x1, pR 195]) (o := 1) (by decide +kernel : pcode 251 5 = some (78, 111, 3, 1127, 84)) rfl (Nat.le_of_ble_eq_true rfl) (by decide) (by decide +kernel) rfl rfl rfl,
  fun l1 l2 x1 x2 nx h r s Q  => o_i2l (by decide +kernel : pcode 251 8 = some (35, 0, 0, 0, 0)),
  fun l1 l2 x1 x2 nx h r s Q hi hn => o_last (h := (h, r, s)) (n := 1) (by decide +kernel : pcode 251 9 = some (66, 0, 0, 0, 0)) (by decide) (by decide +kernel) hi hn,
  fun l1 l2 nx h r s Q  => o_goto (by decide +kernel : pcode 251 10 = some (53, 21, 0, 0, 11)),
  fun l1 l2 nx h r s Q  => o_astore (by decide +kernel : pcode 251 13 = some (17, 4, 0, 0, 0)) rfl,
  fun l1 l2 nx h r s Q  => o_iconst (by decide +kernel : pcode 251 15 = some (1, 0, 0, 0, 1)),
  fun l1 l2 x0 nx h r s Q  => o_iret (by decide +kernel : pcode 251 16 = some (87, 0, 0, 0, 0)),
  fun l1 l2 nx h r s Q  => o_astore (by decide +kernel : pcode 251 17 = some (17, 4, 0, 0, 0)) rfl,
  fun l1 l2 nx h r s Q  => o_iconst (by decide +kernel : pcode 251 19 = some (1, 0, 0, 0, 2)),
  fun l1 l2 x0 nx h r s Q  => o_iret (by decide +kernel : pcode 251 20 = some (87, 0, 0, 0, 0)),
  fun l1 l2 nx h r s Q  => o_iconst (by decide +kernel : pcode 251 21 = some (1, 0, 0, 0, 0)),
  fun l1 l2 x0 nx h r s Q  => o_iret (by decide +kernel : pcode 251 22 = some (87, 0, 0, 0, 0))⟩
set_option maxHeartbeats 4000000 in
set_option maxRecDepth 10000 in
theorem st_L_reset :
  (∀ (l1 : Int) (nx : Nat) (h r : PF) (s : Int → Int) (Q : PO → PY → Nat → PC → Prop), (Wp 252 0 [some (pR 1), some (pI l1), some (pR 195), none] [] LY nx (h, r, s) Q ↔ Wp 252 1 [some (pR 1), some (pI l1), some (pR 195), none] [pR 195] LY nx (h, r, s) Q)) ∧
  (∀ (l1 : Int) (nx : Nat) (h r : PF) (s : Int → Int) (Q : PO → PY → Nat → PC → Prop), (Wp 252 1 [some (pR 1), some (pI l1), some (pR 195), none] [pR 195] LY nx (h, r, s) Q ↔ Wp 252 2 [some (pR 1), some (pI l1), some (pR 195), none] [pI 0, pR 195] LY nx (h, r, s) Q)) ∧
  (∀ (l1 : Int) (x1 : Int) (nx : Nat) (h r : PF) (s : Int → Int) (Q : PO → PY → Nat → PC → Prop), (Wp 252 2 [some (pR 1), some (pI l1), some (pR 195), none] [pI x1, pR 195] LY nx (h, r, s) Q ↔ Wp 252 3 [some (pR 1), some (pI l1), some (pR 195), none] [pR 1, pI x1, pR 195] LY nx (h, r, s) Q)) ∧
  (∀ (l1 : Int) (x1 : Int) (nx : Nat) (h r : PF) (s : Int → Int) (Q : PO → PY → Nat → PC → Prop), (Wp 252 3 [some (pR 1), some (pI l1), some (pR 195), none] [pR 1, pI x1, pR 195] LY nx (h, r, s) Q ↔ Wp 252 4 [some (pR 1), some (pI l1), some (pR 195), none] [pI l1, pR 1, pI x1, pR 195] LY nx (h, r, s) Q)) ∧
  (∀ (l1 : Int) (x1 : Int) (x3 : Int) (nx : Nat) (h r : PF) (s : Int → Int) (Q : PO → PY → Nat → PC → Prop), (Wp 252 4 [some (pR 1), some (pI l1), some (pR 195), none] [pI x3, pR 1, pI x1, pR 195] LY nx (h, r, s) Q ↔ Wp 112 0 [some (pR 1), some (pI x3), none] [] LY nx (h, r, s) (Kc 252 4 [some (pR 1), some (pI l1), some (pR 195), none] 7 [pI x1, pR 195] Q))) ∧
  (∀ (l1 : Int) (x1 : Int) (x2 : Int) (nx : Nat) (h r : PF) (s : Int → Int) (Q : PO → PY → Nat → PC → Prop), (Wp 252 7 [some (pR 1), some (pI l1), some (pR 195), none] [pI x2, pI x1, pR 195] LY nx (h, r, s) Q ↔ Wp 252 8 [some (pR 1), some (pI l1), some (pR 195), none] [pJ x2, pI x1, pR 195] LY nx (h, r, s) Q)) ∧
  (∀ (l1 : Int) (x1 : Int) (x2 : Int) (nx : Nat) (h r : PF) (s : Int → Int) (Q : PO → PY → Nat → PC → Prop), 0 ≤ x1 → x1 < 1 → (Wp 252 8 [some (pR 1), some (pI l1), some (pR 195), none] [pJ x2, pI x1, pR 195] LY nx (h, r, s) Q ↔ Wp 252 9 [some (pR 1), some (pI l1), some (pR 195), none] [] LY nx (fup h 195 x1 x2, r, s) Q)) ∧
  (∀ (l1 : Int) (nx : Nat) (h r : PF) (s : Int → Int) (Q : PO → PY → Nat → PC → Prop), (Wp 252 9 [some (pR 1), some (pI l1), some (pR 195), none] [] LY nx (h, r, s) Q ↔ Wp 252 18 [some (pR 1), some (pI l1), some (pR 195), none] [] LY nx (h, r, s) Q)) ∧
  (∀ (l1 : Int) (nx : Nat) (h r : PF) (s : Int → Int) (Q : PO → PY → Nat → PC → Prop), (Wp 252 12 [some (pR 1), some (pI l1), some (pR 195), none] [pR (-2000)] LY nx (h, r, s) Q ↔ Wp 252 13 [some (pR 1), some (pI l1), some (pR 195), some (pR (-2000))] [] LY nx (h, r, s) Q)) ∧
  (∀ (l1 : Int) (nx : Nat) (h r : PF) (s : Int → Int) (Q : PO → PY → Nat → PC → Prop), (Wp 252 13 [some (pR 1), some (pI l1), some (pR 195), some (pR (-2000))] [] LY nx (h, r, s) Q ↔ Wp 252 14 [some (pR 1), some (pI l1), some (pR 195), some (pR (-2000))] [pI 1] LY nx (h, r, s) Q)) ∧
  (∀ (l1 : Int) (x0 : Int) (nx : Nat) (h r : PF) (s : Int → Int) (Q : PO → PY → Nat → PC → Prop), (Wp 252 14 [some (pR 1), some (pI l1), some (pR 195), some (pR (-2000))] [pI x0] LY nx (h, r, s) Q ↔ Q (Sum.inl (some (pI x0))) LY nx (h, r, s))) ∧
  (∀ (l1 : Int) (nx : Nat) (h r : PF) (s : Int → Int) (Q : PO → PY → Nat → PC → Prop), (Wp 252 15 [some (pR 1), some (pI l1), some (pR 195), none] [pR (-2000)] LY nx (h, r, s) Q ↔ Wp 252 16 [some (pR 1), some (pI l1), some (pR 195), some (pR (-2000))] [] LY nx (h, r, s) Q)) ∧
  (∀ (l1 : Int) (nx : Nat) (h r : PF) (s : Int → Int) (Q : PO → PY → Nat → PC → Prop), (Wp 252 16 [some (pR 1), some (pI l1), some (pR 195), some (pR (-2000))] [] LY nx (h, r, s) Q ↔ Wp 252 17 [some (pR 1), some (pI l1), some (pR 195), some (pR (-2000))] [pI 2] LY nx (h, r, s) Q)) ∧
  (∀ (l1 : Int) (x0 : Int) (nx : Nat) (h r : PF) (s : Int → Int) (Q : PO → PY → Nat → PC → Prop), (Wp 252 17 [some (pR 1), some (pI l1), some (pR 195), some (pR (-2000))] [pI x0] LY nx (h, r, s) Q ↔ Q (Sum.inl (some (pI x0))) LY nx (h, r, s))) ∧
  (∀ (l1 : Int) (nx : Nat) (h r : PF) (s : Int → Int) (Q : PO → PY → Nat → PC → Prop), (Wp 252 18 [some (pR 1), some (pI l1), some (pR 195), none] [] LY nx (h, r, s) Q ↔ Wp 252 19 [some (pR 1), some (pI l1), some (pR 195), none] [pI 0] LY nx (h, r, s) Q)) ∧
  (∀ (l1 : Int) (x0 : Int) (nx : Nat) (h r : PF) (s : Int → Int) (Q : PO → PY → Nat → PC → Prop), (Wp 252 19 [some (pR 1), some (pI l1), some (pR 195), none] [pI x0] LY nx (h, r, s) Q ↔ Q (Sum.inl (some (pI x0))) LY nx (h, r, s))) :=
  ⟨fun l1 nx h r s Q  => o_aload_n (by decide +kernel : pcode 252 0 = some (10, 2, 0, 0, 0)) rfl,
  fun l1 nx h r s Q  => o_iconst (by decide +kernel : pcode 252 1 = some (1, 0, 0, 0, 0)),
  fun l1 x1 nx h r s Q  => o_aload_n (by decide +kernel : pcode 252 2 = some (10, 0, 0, 0, 0)) rfl,
  fun l1 x1 nx h r s Q  => o_iload_n (by decide +kernel : pcode 252 3 = some (6, 1, 0, 0, 0)) rfl,
  fun l1 x1 x3 nx h r s Q  => o_ivV (s1 := [pI x3]) (s2 := [pI x1, pR 195]) (o := 1) (by decide +kernel : pcode 252 4 = some (78, 112, 2, 1138, 87)) rfl (Nat.le_of_ble_eq_true rfl) (by decide) (by decide +kernel) rfl rfl rfl,
  fun l1 x1 x2 nx h r s Q  => o_i2l (by decide +kernel : pcode 252 7 = some (35, 0, 0, 0, 0)),
  fun l1 x1 x2 nx h r s Q hi hn => o_last (h := (h, r, s)) (n := 1) (by decide +kernel : pcode 252 8 = some (66, 0, 0, 0, 0)) (by decide) (by decide +kernel) hi hn,
  fun l1 nx h r s Q  => o_goto (by decide +kernel : pcode 252 9 = some (53, 18, 0, 0, 9)),
  fun l1 nx h r s Q  => o_astore_n (by decide +kernel : pcode 252 12 = some (16, 3, 0, 0, 0)) rfl,
  fun l1 nx h r s Q  => o_iconst (by decide +kernel : pcode 252 13 = some (1, 0, 0, 0, 1)),
  fun l1 x0 nx h r s Q  => o_iret (by decide +kernel : pcode 252 14 = some (87, 0, 0, 0, 0)),
  fun l1 nx h r s Q  => o_astore_n (by decide +kernel : pcode 252 15 = some (16, 3, 0, 0, 0)) rfl,
  fun l1 nx h r s Q  => o_iconst (by decide +kernel : pcode 252 16 = some (1, 0, 0, 0, 2)),
  fun l1 x0 nx h r s Q  => o_iret (by decide +kernel : pcode 252 17 = some (87, 0, 0, 0, 0)),
  fun l1 nx h r s Q  => o_iconst (by decide +kernel : pcode 252 18 = some (1, 0, 0, 0, 0)),
  fun l1 x0 nx h r s Q  => o_iret (by decide +kernel : pcode 252 19 = some (87, 0, 0, 0, 0))⟩
set_option maxHeartbeats 4000000 in
set_option maxRecDepth 10000 in
theorem st_L_give :
  (∀ (l1 : Int) (l2 : Int) (l3 : Int) (nx : Nat) (h r : PF) (s : Int → Int) (Q : PO → PY → Nat → PC → Prop), (Wp 253 0 [some (pR 1), some (pI l1), some (pI l2), some (pI l3), some (pR 195), none] [] LY nx (h, r, s) Q ↔ Wp 253 2 [some (pR 1), some (pI l1), some (pI l2), some (pI l3), some (pR 195), none] [pR 195] LY nx (h, r, s) Q)) ∧
  (∀ (l1 : Int) (l2 : Int) (l3 : Int) (nx : Nat) (h r : PF) (s : Int → Int) (Q : PO → PY → Nat → PC → Prop), (Wp 253 2 [some (pR 1), some (pI l1), some (pI l2), some (pI l3), some (pR 195), none] [pR 195] LY nx (h, r, s) Q ↔ Wp 253 3 [some (pR 1), some (pI l1), some (pI l2), some (pI l3), some (pR 195), none] [pI 0, pR 195] LY nx (h, r, s) Q)) ∧
  (∀ (l1 : Int) (l2 : Int) (l3 : Int) (x1 : Int) (nx : Nat) (h r : PF) (s : Int → Int) (Q : PO → PY → Nat → PC → Prop), (Wp 253 3 [some (pR 1), some (pI l1), some (pI l2), some (pI l3), some (pR 195), none] [pI x1, pR 195] LY nx (h, r, s) Q ↔ Wp 253 4 [some (pR 1), some (pI l1), some (pI l2), some (pI l3), some (pR 195), none] [pR 1, pI x1, pR 195] LY nx (h, r, s) Q)) ∧
  (∀ (l1 : Int) (l2 : Int) (l3 : Int) (x1 : Int) (nx : Nat) (h r : PF) (s : Int → Int) (Q : PO → PY → Nat → PC → Prop), (Wp 253 4 [some (pR 1), some (pI l1), some (pI l2), some (pI l3), some (pR 195), none] [pR 1, pI x1, pR 195] LY nx (h, r, s) Q ↔ Wp 253 5 [some (pR 1), some (pI l1), some (pI l2), some (pI l3), some (pR 195), none] [pI l1, pR 1, pI x1, pR 195] LY nx (h, r, s) Q)) ∧
  (∀ (l1 : Int) (l2 : Int) (l3 : Int) (x1 : Int) (x3 : Int) (nx : Nat) (h r : PF) (s : Int → Int) (Q : PO → PY → Nat → PC → Prop), (Wp 253 5 [some (pR 1), some (pI l1), some (pI l2), some (pI l3), some (pR 195), none] [pI x3, pR 1, pI x1, pR 195] LY nx (h, r, s) Q ↔ Wp 253 6 [some (pR 1), some (pI l1), some (pI l2), some (pI l3), some (pR 195), none] [pI l2, pI x3, pR 1, pI x1, pR 195] LY nx (h, r, s) Q)) ∧
  (∀ (l1 : Int) (l2 : Int) (l3 : Int) (x1 : Int) (x3 : Int) (x4 : Int) (nx : Nat) (h r : PF) (s : Int → Int) (Q : PO → PY → Nat → PC → Prop), (Wp 253 6 [some (pR 1), some (pI l1), some (pI l2), some (pI l3), some (pR 195), none] [pI x4, pI x3, pR 1, pI x1, pR 195] LY nx (h, r, s) Q ↔ Wp 253 7 [some (pR 1), some (pI l1), some (pI l2), some (pI l3), some (pR 195), none] [pI l3, pI x4, pI x3, pR 1, pI x1, pR 195] LY nx (h, r, s) Q)) ∧
  (∀ (l1 : Int) (l2 : Int) (l3 : Int) (x1 : Int) (x3 : Int) (x4 : Int) (x5 : Int) (nx : Nat) (h r : PF) (s : Int → Int) (Q : PO → PY → Nat → PC → Prop), (Wp 253 7 [some (pR 1), some (pI l1), some (pI l2), some (pI l3), some (pR 195), none] [pI x5, pI x4, pI x3, pR 1, pI x1, pR 195] LY nx (h, r, s) Q ↔ Wp 113 0 [some (pR 1), some (pI x3), some (pI x4), some (pI x5)] [] LY nx (h, r, s) (Kc 253 7 [some (pR 1), some (pI l1), some (pI l2), some (pI l3), some (pR 195), none] 10 [pI x1, pR 195] Q))) ∧
  (∀ (l1 : Int) (l2 : Int) (l3 : Int) (x1 : Int) (x2 : Int) (nx : Nat) (h r : PF) (s : Int → Int) (Q : PO → PY → Nat → PC → Prop), (Wp 253 10 [some (pR 1), some (pI l1), some (pI l2), some (pI l3), some (pR 195), none] [pI x2, pI x1, pR 195] LY nx (h, r, s) Q ↔ Wp 253 11 [some (pR 1), some (pI l1), some (pI l2), some (pI l3), some (pR 195), none] [pJ x2, pI x1, pR 195] LY nx (h, r, s) Q)) ∧
  (∀ (l1 : Int) (l2 : Int) (l3 : Int) (x1 : Int) (x2 : Int) (nx : Nat) (h r : PF) (s : Int → Int) (Q : PO → PY → Nat → PC → Prop), 0 ≤ x1 → x1 < 1 → (Wp 253 11 [some (pR 1), some (pI l1), some (pI l2), some (pI l3), some (pR 195), none] [pJ x2, pI x1, pR 195] LY nx (h, r, s) Q ↔ Wp 253 12 [some (pR 1), some (pI l1), some (pI l2), some (pI l3), some (pR 195), none] [] LY nx (fup h 195 x1 x2, r, s) Q)) ∧
  (∀ (l1 : Int) (l2 : Int) (l3 : Int) (nx : Nat) (h r : PF) (s : Int → Int) (Q : PO → PY → Nat → PC → Prop), (Wp 253 12 [some (pR 1), some (pI l1), some (pI l2), some (pI l3), some (pR 195), none] [] LY nx (h, r, s) Q ↔ Wp 253 27 [some (pR 1), some (pI l1), some (pI l2), some (pI l3), some (pR 195), none] [] LY nx (h, r, s) Q)) ∧
  (∀ (l1 : Int) (l2 : Int) (l3 : Int) (nx : Nat) (h r : PF) (s : Int → Int) (Q : PO → PY → Nat → PC → Prop), (Wp 253 15 [some (pR 1), some (pI l1), some (pI l2), some (pI l3), some (pR 195), none] [pR (-2000)] LY nx (h, r, s) Q ↔ Wp 253 17 [some (pR 1), some (pI l1), some (pI l2), some (pI l3), some (pR 195), some (pR (-2000))] [] LY nx (h, r, s) Q)) ∧
  (∀ (l1 : Int) (l2 : Int) (l3 : Int) (nx : Nat) (h r : PF) (s : Int → Int) (Q : PO → PY → Nat → PC → Prop), (Wp 253 17 [some (pR 1), some (pI l1), some (pI l2), some (pI l3), some (pR 195), some (pR (-2000))] [] LY nx (h, r, s) Q ↔ Wp 253 18 [some (pR 1), some (pI l1), some (pI l2), some (pI l3), some (pR 195), some (pR (-2000))] [pI 1] LY nx (h, r, s) Q)) ∧
  (∀ (l1 : Int) (l2 : Int) (l3 : Int) (x0 : Int) (nx : Nat) (h r : PF) (s : Int → Int) (Q : PO → PY → Nat → PC → Prop), (Wp 253 18 [some (pR 1), some (pI l1), some (pI l2), some (pI l3), some (pR 195), some (pR (-2000))] [pI x0] LY nx (h, r, s) Q ↔ Q (Sum.inl (some (pI x0))) LY nx (h, r, s))) ∧
  (∀ (l1 : Int) (l2 : Int) (l3 : Int) (nx : Nat) (h r : PF) (s : Int → Int) (Q : PO → PY → Nat → PC → Prop), (Wp 253 19 [some (pR 1), some (pI l1), some (pI l2), some (pI l3), some (pR 195), none] [pR (-2000)] LY nx (h, r, s) Q ↔ Wp 253 21 [some (pR 1), some (pI l1), some (pI l2), some (pI l3), some (pR 195), some (pR (-2000))] [] LY nx (h, r, s) Q)) ∧
  (∀ (l1 : Int) (l2 : Int) (l3 : Int) (nx : Nat) (h r : PF) (s : Int → Int) (Q : PO → PY → Nat → PC → Prop), (Wp 253 21 [some (pR 1), some (pI l1), some (pI l2), some (pI l3), some (pR 195), some (pR (-2000))] [] LY nx (h, r, s) Q ↔ Wp 253 22 [some (pR 1), some (pI l1), some (pI l2), some (pI l3), some (pR 195), some (pR (-2000))] [pI 2] LY nx (h, r, s) Q)) ∧
  (∀ (l1 : Int) (l2 : Int) (l3 : Int) (x0 : Int) (nx : Nat) (h r : PF) (s : Int → Int) (Q : PO → PY → Nat → PC → Prop), (Wp 253 22 [some (pR 1), some (pI l1), some (pI l2), some (pI l3), some (pR 195), some (pR (-2000))] [pI x0] LY nx (h, r, s) Q ↔ Q (Sum.inl (some (pI x0))) LY nx (h, r, s))) ∧
  (∀ (l1 : Int) (l2 : Int) (l3 : Int) (nx : Nat) (h r : PF) (s : Int → Int) (Q : PO → PY → Nat → PC → Prop), (Wp 253 23 [some (pR 1), some (pI l1), some (pI l2), some (pI l3), some (pR 195), none] [pR (-2000)] LY nx (h, r, s) Q ↔ Wp 253 25 [some (pR 1), some (pI l1), some (pI l2), some (pI l3), some (pR 195), some (pR (-2000))] [] LY nx (h, r, s) Q)) ∧
  (∀ (l1 : Int) (l2 : Int) (l3 : Int) (nx : Nat) (h r : PF) (s : Int → Int) (Q : PO → PY → Nat → PC → Prop), (Wp 253 25 [some (pR 1), some (pI l1), some (pI l2), some (pI l3), some (pR 195), some (pR (-2000))] [] LY nx (h, r, s) Q ↔ Wp 253 26 [some (pR 1), some (pI l1), some (pI l2), some (pI l3), some (pR 195), some (pR (-2000))] [pI 3] LY nx (h, r, s) Q)) ∧
  (∀ (l1 : Int) (l2 : Int) (l3 : Int) (x0 : Int) (nx : Nat) (h r : PF) (s : Int → Int) (Q : PO → PY → Nat → PC → Prop), (Wp 253 26 [some (pR 1), some (pI l1), some (pI l2), some (pI l3), some (pR 195), some (pR (-2000))] [pI x0] LY nx (h, r, s) Q ↔ Q (Sum.inl (some (pI x0))) LY nx (h, r, s))) ∧
  (∀ (l1 : Int) (l2 : Int) (l3 : Int) (nx : Nat) (h r : PF) (s : Int → Int) (Q : PO → PY → Nat → PC → Prop), (Wp 253 27 [some (pR 1), some (pI l1), some (pI l2), some (pI l3), some (pR 195), none] [] LY nx (h, r, s) Q ↔ Wp 253 28 [some (pR 1), some (pI l1), some (pI l2), some (pI l3), some (pR 195), none] [pI 0] LY nx (h, r, s) Q)) ∧
  (∀ (l1 : Int) (l2 : Int) (l3 : Int) (x0 : Int) (nx : Nat) (h r : PF) (s : Int → Int) (Q : PO → PY → Nat → PC → Prop), (Wp 253 28 [some (pR 1), some (pI l1), some (pI l2), some (pI l3), some (pR 195), none] [pI x0] LY nx (h, r, s) Q ↔ Q (Sum.inl (some (pI x0))) LY nx (h, r, s))) :=
  ⟨fun l1 l2 l3 nx h r s Q  => o_aload (by decide +kernel : pcode 253 0 = some (11, 4, 0, 0, 0)) rfl,
  fun l1 l2 l3 nx h r s Q  => o_iconst (by decide +kernel : pcode 253 2 = some (1, 0, 0, 0, 0)),
  fun l1 l2 l3 x1 nx h r s Q  => o_aload_n (by decide +kernel : pcode 253 3 = some (10, 0, 0, 0, 0)) rfl,
  fun l1 l2 l3 x1 nx h r s Q  => o_iload_n (by decide +kernel : pcode 253 4 = some (6, 1, 0, 0, 0)) rfl,
  fun l1 l2 l3 x1 x3 nx h r s Q  => o_iload_n (by decide +kernel : pcode 253 5 = some (6, 2, 0, 0, 0)) rfl,
  fun l1 l2 l3 x1 x3 x4 nx h r s Q  => o_iload_n (by decide +kernel : pcode 253 6 = some (6, 3, 0, 0, 0)) rfl,
  fun l1 l2 l3 x1 x3 x4 x5 nx h r s Q  => o_ivV (s1 := [pI x5, pI x4, pI x3]) (s2 := [pI x1, pR 195]) (o := 1) (by decide +kernel : pcode 253 7 = some (78, 113, 4, 1146, 90)) rfl (Nat.le_of_ble_eq_true rfl) (by decide) (by decide +kernel) rfl rfl rfl,
  fun l1 l2 l3 x1 x2 nx h r s Q  => o_i2l (by decide +kernel : pcode 253 10 = some (35, 0, 0, 0, 0)),
  fun l1 l2 l3 x1 x2 nx h r s Q hi hn => o_last (h := (h, r, s)) (n := 1) (by decide +kernel : pcode 253 11 = some (66, 0, 0, 0, 0)) (by decide) (by decide +kernel) hi hn,
  fun l1 l2 l3 nx h r s Q  => o_goto (by decide +kernel : pcode 253 12 = some (53, 27, 0, 0, 15)),
  fun l1 l2 l3 nx h r s Q  => o_astore (by decide +kernel : pcode 253 15 = some (17, 5, 0, 0, 0)) rfl,
  fun l1 l2 l3 nx h r s Q  => o_iconst (by decide +kernel : pcode 253 17 = some (1, 0, 0, 0, 1)),
  fun l1 l2 l3 x0 nx h r s Q  => o_iret (by decide +kernel : pcode 253 18 = some (87, 0, 0, 0, 0)),
  fun l1 l2 l3 nx h r s Q  => o_astore (by decide +kernel : pcode 253 19 = some (17, 5, 0, 0, 0)) rfl,
  fun l1 l2 l3 nx h r s Q  => o_iconst (by decide +kernel : pcode 253 21 = some (1, 0, 0, 0, 2)),
  fun l1 l2 l3 x0 nx h r s Q  => o_iret (by decide +kernel : pcode 253 22 = some (87, 0, 0, 0, 0)),
  fun l1 l2 l3 nx h r s Q  => o_astore (by decide +kernel : pcode 253 23 = some (17, 5, 0, 0, 0)) rfl,
  fun l1 l2 l3 nx h r s Q  => o_iconst (by decide +kernel : pcode 253 25 = some (1, 0, 0, 0, 3)),
  fun l1 l2 l3 x0 nx h r s Q  => o_iret (by decide +kernel : pcode 253 26 = some (87, 0, 0, 0, 0)),
  fun l1 l2 l3 nx h r s Q  => o_iconst (by decide +kernel : pcode 253 27 = some (1, 0, 0, 0, 0)),
  fun l1 l2 l3 x0 nx h r s Q  => o_iret (by decide +kernel : pcode 253 28 = some (87, 0, 0, 0, 0))⟩
set_option maxHeartbeats 4000000 in
set_option maxRecDepth 10000 in
theorem st_L_setWeight :
  (∀ (l1 : Int) (l2 : Int) (nx : Nat) (h r : PF) (s : Int → Int) (Q : PO → PY → Nat → PC → Prop), (Wp 254 0 [some (pR 1), some (pI l1), some (pI l2), some (pR 195), none] [] LY nx (h, r, s) Q ↔ Wp 254 1 [some (pR 1), some (pI l1), some (pI l2), some (pR 195), none] [pR 195] LY nx (h, r, s) Q)) ∧
  (∀ (l1 : Int) (l2 : Int) (nx : Nat) (h r : PF) (s : Int → Int) (Q : PO → PY → Nat → PC → Prop), (Wp 254 1 [some (pR 1), some (pI l1), some (pI l2), some (pR 195), none] [pR 195] LY nx (h, r, s) Q ↔ Wp 254 2 [some (pR 1), some (pI l1), some (pI l2), some (pR 195), none] [pI 0, pR 195] LY nx (h, r, s) Q)) ∧
  (∀ (l1 : Int) (l2 : Int) (x1 : Int) (nx : Nat) (h r : PF) (s : Int → Int) (Q : PO → PY → Nat → PC → Prop), (Wp 254 2 [some (pR 1), some (pI l1), some (pI l2), some (pR 195), none] [pI x1, pR 195] LY nx (h, r, s) Q ↔ Wp 254 3 [some (pR 1), some (pI l1), some (pI l2), some (pR 195), none] [pR 1, pI x1, pR 195] LY nx (h, r, s) Q)) ∧
  (∀ (l1 : Int) (l2 : Int) (x1 : Int) (nx : Nat) (h r : PF) (s : Int → Int) (Q : PO → PY → Nat → PC → Prop), (Wp 254 3 [some (pR 1), some (pI l1), some (pI l2), some (pR 195), none] [pR 1, pI x1, pR 195] LY nx (h, r, s) Q ↔ Wp 254 4 [some (pR 1), some (pI l1), some (pI l2), some (pR 195), none] [pI l1, pR 1, pI x1, pR 195] LY nx (h, r, s) Q)) ∧
  (∀ (l1 : Int) (l2 : Int) (x1 : Int) (x3 : Int) (nx : Nat) (h r : PF) (s : Int → Int) (Q : PO → PY → Nat → PC → Prop), (Wp 254 4 [some (pR 1), some (pI l1), some (pI l2), some (pR 195), none] [pI x3, pR 1, pI x1, pR 195] LY nx (h, r, s) Q ↔ Wp 254 5 [some (pR 1), some (pI l1), some (pI l2), some (pR 195), none] [pI l2, pI x3, pR 1, pI x1, pR 195] LY nx (h, r, s) Q)) ∧
  (∀ (l1 : Int) (l2 : Int) (x1 : Int) (x3 : Int) (x4 : Int) (nx : Nat) (h r : PF) (s : Int → Int) (Q : PO → PY → Nat → PC → Prop), (Wp 254 5 [some (pR 1), some (pI l1), some (pI l2), some (pR 195), none] [pI x4, pI x3, pR 1, pI x1, pR 195] LY nx (h, r, s) Q ↔ Wp 114 0 [some (pR 1), some (pI x3), some (pI x4), none] [] LY nx (h, r, s) (Kc 254 5 [some (pR 1), some (pI l1), some (pI l2), some (pR 195), none] 8 [pI x1, pR 195] Q))) ∧
  (∀ (l1 : Int) (l2 : Int) (x1 : Int) (x2 : Int) (nx : Nat) (h r : PF) (s : Int → Int) (Q : PO → PY → Nat → PC → Prop), (Wp 254 8 [some (pR 1), some (pI l1), some (pI l2), some (pR 195), none] [pI x2, pI x1, pR 195] LY nx (h, r, s) Q ↔ Wp 254 9 [some (pR 1), some (pI l1), some (pI l2), some (pR 195), none] [pJ x2, pI x1, pR 195] LY nx (h, r, s) Q)) ∧
  (∀ (l1 : Int) (l2 : Int) (x1 : Int) (x2 : Int) (nx : Nat) (h r : PF) (s : Int → Int) (Q : PO → PY → Nat → PC → Prop), 0 ≤ x1 → x1 < 1 → (Wp 254 9 [some (pR 1), some (pI l1), some (pI l2), some (pR 195), none] [pJ x2, pI x1, pR 195] LY nx (h, r, s) Q ↔ Wp 254 10 [some (pR 1), some (pI l1), some (pI l2), some (pR 195), none] [] LY nx (fup h 195 x1 x2, r, s) Q)) ∧
  (∀ (l1 : Int) (l2 : Int) (nx : Nat) (h r : PF) (s : Int → Int) (Q : PO → PY → Nat → PC → Prop), (Wp 254 10 [some (pR 1), some (pI l1), some (pI l2), some (pR 195), none] [] LY nx (h, r, s) Q ↔ Wp 254 21 [some (pR 1), some (pI l1), some (pI l2), some (pR 195), none] [] LY nx (h, r, s) Q)) ∧
  (∀ (l1 : Int) (l2 : Int) (nx : Nat) (h r : PF) (s : Int → Int) (Q : PO → PY → Nat → PC → Prop), (Wp 254 13 [some (pR 1), some (pI l1), some (pI l2), some (pR 195), none] [pR (-2000)] LY nx (h, r, s) Q ↔ Wp 254 15 [some (pR 1), some (pI l1), some (pI l2), some (pR 195), some (pR (-2000))] [] LY nx (h, r, s) Q)) ∧
  (∀ (l1 : Int) (l2 : Int) (nx : Nat) (h r : PF) (s : Int → Int) (Q : PO → PY → Nat → PC → Prop), (Wp 254 15 [some (pR 1), some (pI l1), some (pI l2), some (pR 195), some (pR (-2000))] [] LY nx (h, r, s) Q ↔ Wp 254 16 [some (pR 1), some (pI l1), some (pI l2), some (pR 195), some (pR (-2000))] [pI 1] LY nx (h, r, s) Q)) ∧
  (∀ (l1 : Int) (l2 : Int) (x0 : Int) (nx : Nat) (h r : PF) (s : Int → Int) (Q : PO → PY → Nat → PC → Prop), (Wp 254 16 [some (pR 1), some (pI l1), some (pI l2), some (pR 195), some (pR (-2000))] [pI x0] LY nx (h, r, s) Q ↔ Q (Sum.inl (some (pI x0))) LY nx (h, r, s))) ∧
  (∀ (l1 : Int) (l2 : Int) (nx : Nat) (h r : PF) (s : Int → Int) (Q : PO → PY → Nat → PC → Prop), (Wp 254 17 [some (pR 1), some (pI l1), some (pI l2), some (pR 195), none] [pR (-2000)] LY nx (h, r, s) Q ↔ Wp 254 19 [some (pR 1), some (pI l1), some (pI l2), some (pR 195), some (pR (-2000))] [] LY nx (h, r, s) Q)) ∧
  (∀ (l1 : Int) (l2 : Int) (nx : Nat) (h r : PF) (s : Int → Int) (Q : PO → PY → Nat → PC → Prop), (Wp 254 19 [some (pR 1), some (pI l1), some (pI l2), some (pR 195), some (pR (-2000))] [] LY nx (h, r, s) Q ↔ Wp 254 20 [some (pR 1), some (pI l1), some (pI l2), some (pR 195), some (pR (-2000))] [pI 2] LY nx (h, r, s) Q)) ∧
  (∀ (l1 : Int) (l2 : Int) (x0 : Int) (nx : Nat) (h r : PF) (s : Int → Int) (Q : PO → PY → Nat → PC → Prop), (Wp 254 20 [some (pR 1), some (pI l1), some (pI l2), some (pR 195), some (pR (-2000))] [pI x0] LY nx (h, r, s) Q ↔ Q (Sum.inl (some (pI x0))) LY nx (h, r, s))) ∧
  (∀ (l1 : Int) (l2 : Int) (nx : Nat) (h r : PF) (s : Int → Int) (Q : PO → PY → Nat → PC → Prop), (Wp 254 21 [some (pR 1), some (pI l1), some (pI l2), some (pR 195), none] [] LY nx (h, r, s) Q ↔ Wp 254 22 [some (pR 1), some (pI l1), some (pI l2), some (pR 195), none] [pI 0] LY nx (h, r, s) Q)) ∧
  (∀ (l1 : Int) (l2 : Int) (x0 : Int) (nx : Nat) (h r : PF) (s : Int → Int) (Q : PO → PY → Nat → PC → Prop), (Wp 254 22 [some (pR 1), some (pI l1), some (pI l2), some (pR 195), none] [pI x0] LY nx (h, r, s) Q ↔ Q (Sum.inl (some (pI x0))) LY nx (h, r, s))) :=
  ⟨fun l1 l2 nx h r s Q  => o_aload_n (by decide +kernel : pcode 254 0 = some (10, 3, 0, 0, 0)) rfl,
  fun l1 l2 nx h r s Q  => o_iconst (by decide +kernel : pcode 254 1 = some (1, 0, 0, 0, 0)),
  fun l1 l2 x1 nx h r s Q  => o_aload_n (by decide +kernel : pcode 254 2 = some (10, 0, 0, 0, 0)) rfl,
  fun l1 l2 x1 nx h r s Q  => o_iload_n (by decide +kernel : pcode 254 3 = some (6, 1, 0, 0, 0)) rfl,
  fun l1 l2 x1 x3 nx h r s Q  => o_iload_n (by decide +kernel : pcode 254 4 = some (6, 2, 0, 0, 0)) rfl,
  fun l1 l2 x1 x3 x4 nx h r s Q  => o_ivV (s1 := [pI x4, pI x3]) (s2 := [pI x1, pR 195]) (o := 1) (by decide +kernel : pcode 254 5 = some (78, 114, 3, 1153, 93)) rfl (Nat.le_of_ble_eq_true rfl) (by decide) (by decide +kernel) rfl rfl rfl,
  fun l1 l2 x1 x2 nx h r s Q  => o_i2l (by decide +kernel : pcode 254 8 = some (35, 0, 0, 0, 0)),
  fun l1 l2 x1 x2 nx h r s Q hi hn => o_last (h := (h, r, s)) (n := 1) (by decide +kernel : pcode 254 9 = some (66, 0, 0, 0, 0)) (by decide) (by decide +kernel) hi hn,
  fun l1 l2 nx h r s Q  => o_goto (by decide +kernel : pcode 254 10 = some (53, 21, 0, 0, 11)),
  fun l1 l2 nx h r s Q  => o_astore (by decide +kernel : pcode 254 13 = some (17, 4, 0, 0, 0)) rfl,
  fun l1 l2 nx h r s Q  => o_iconst (by decide +kernel : pcode 254 15 = some (1, 0, 0, 0, 1)),
  fun l1 l2 x0 nx h r s Q  => o_iret (by decide +kernel : pcode 254 16 = some (87, 0, 0, 0, 0)),
  fun l1 l2 nx h r s Q  => o_astore (by decide +kernel : pcode 254 17 = some (17, 4, 0, 0, 0)) rfl,
  fun l1 l2 nx h r s Q  => o_iconst (by decide +kernel : pcode 254 19 = some (1, 0, 0, 0, 2)),
  fun l1 l2 x0 nx h r s Q  => o_iret (by decide +kernel : pcode 254 20 = some (87, 0, 0, 0, 0)),
  fun l1 l2 nx h r s Q  => o_iconst (by decide +kernel : pcode 254 21 = some (1, 0, 0, 0, 0)),
  fun l1 l2 x0 nx h r s Q  => o_iret (by decide +kernel : pcode 254 22 = some (87, 0, 0, 0, 0))⟩
set_option maxHeartbeats 4000000 in
set_option maxRecDepth 10000 in
theorem st_L_saveSnapshot :
  (∀ (l1 : Int) (nx : Nat) (h r : PF) (s : Int → Int) (Q : PO → PY → Nat → PC → Prop), (Wp 255 0 [some (pR 1), some (pI l1), some (pR 195), none] [] LY nx (h, r, s) Q ↔ Wp 255 1 [some (pR 1), some (pI l1), some (pR 195), none] [pR 195] LY nx (h, r, s) Q)) ∧
  (∀ (l1 : Int) (nx : Nat) (h r : PF) (s : Int → Int) (Q : PO → PY → Nat → PC → Prop), (Wp 255 1 [some (pR 1), some (pI l1), some (pR 195), none] [pR 195] LY nx (h, r, s) Q ↔ Wp 255 2 [some (pR 1), some (pI l1), some (pR 195), none] [pI 0, pR 195] LY nx (h, r, s) Q)) ∧
  (∀ (l1 : Int) (x1 : Int) (nx : Nat) (h r : PF) (s : Int → Int) (Q : PO → PY → Nat → PC → Prop), (Wp 255 2 [some (pR 1), some (pI l1), some (pR 195), none] [pI x1, pR 195] LY nx (h, r, s) Q ↔ Wp 255 3 [some (pR 1), some (pI l1), some (pR 195), none] [pR 1, pI x1, pR 195] LY nx (h, r, s) Q)) ∧
  (∀ (l1 : Int) (x1 : Int) (nx : Nat) (h r : PF) (s : Int → Int) (Q : PO → PY → Nat → PC → Prop), (Wp 255 3 [some (pR 1), some (pI l1), some (pR 195), none] [pR 1, pI x1, pR 195] LY nx (h, r, s) Q ↔ Wp 255 4 [some (pR 1), some (pI l1), some (pR 195), none] [pI l1, pR 1, pI x1, pR 195] LY nx (h, r, s) Q)) ∧
  (∀ (l1 : Int) (x1 : Int) (x3 : Int) (nx : Nat) (h r : PF) (s : Int → Int) (Q : PO → PY → Nat → PC → Prop), (Wp 255 4 [some (pR 1), some (pI l1), some (pR 195), none] [pI x3, pR 1, pI x1, pR 195] LY nx (h, r, s) Q ↔ Wp 116 0 [some (pR 1), some (pI x3)] [] LY nx (h, r, s) (Kc 255 4 [some (pR 1), some (pI l1), some (pR 195), none] 7 [pI x1, pR 195] Q))) ∧
  (∀ (l1 : Int) (x1 : Int) (x2 : Int) (nx : Nat) (h r : PF) (s : Int → Int) (Q : PO → PY → Nat → PC → Prop), (Wp 255 7 [some (pR 1), some (pI l1), some (pR 195), none] [pI x2, pI x1, pR 195] LY nx (h, r, s) Q ↔ (if x2 = 0 then Wp 255 14 [some (pR 1), some (pI l1), some (pR 195), none] [pI x1, pR 195] LY nx (h, r, s) Q else Wp 255 10 [some (pR 1), some (pI l1), some (pR 195), none] [pI x1, pR 195] LY nx (h, r, s) Q))) ∧
  (∀ (l1 : Int) (x1 : Int) (nx : Nat) (h r : PF) (s : Int → Int) (Q : PO → PY → Nat → PC → Prop), (Wp 255 10 [some (pR 1), some (pI l1), some (pR 195), none] [pI x1, pR 195] LY nx (h, r, s) Q ↔ Wp 255 11 [some (pR 1), some (pI l1), some (pR 195), none] [pJ 1, pI x1, pR 195] LY nx (h, r, s) Q)) ∧
  (∀ (l1 : Int) (x1 : Int) (x2 : Int) (nx : Nat) (h r : PF) (s : Int → Int) (Q : PO → PY → Nat → PC → Prop), (Wp 255 11 [some (pR 1), some (pI l1), some (pR 195), none] [pJ x2, pI x1, pR 195] LY nx (h, r, s) Q ↔ Wp 255 15 [some (pR 1), some (pI l1), some (pR 195), none] [pJ x2, pI x1, pR 195] LY nx (h, r, s) Q)) ∧
  (∀ (l1 : Int) (x1 : Int) (nx : Nat) (h r : PF) (s : Int → Int) (Q : PO → PY → Nat → PC → Prop), (Wp 255 14 [some (pR 1), some (pI l1), some (pR 195), none] [pI x1, pR 195] LY nx (h, r, s) Q ↔ Wp 255 15 [some (pR 1), some (pI l1), some (pR 195), none] [pJ 0, pI x1, pR 195] LY nx (h, r, s) Q)) ∧
  (∀ (l1 : Int) (x1 : Int) (x2 : Int) (nx : Nat) (h r : PF) (s : Int → Int) (Q : PO → PY → Nat → PC → Prop), 0 ≤ x1 → x1 < 1 → (Wp 255 15 [some (pR 1), some (pI l1), some (pR 195), none] [pJ x2, pI x1, pR 195] LY nx (h, r, s) Q ↔ Wp 255 16 [some (pR 1), some (pI l1), some (pR 195), none] [] LY nx (fup h 195 x1 x2, r, s) Q)) ∧
  (∀ (l1 : Int) (nx : Nat) (h r : PF) (s : Int → Int) (Q : PO → PY → Nat → PC → Prop), (Wp 255 16 [some (pR 1), some (pI l1), some (pR 195), none] [] LY nx (h, r, s) Q ↔ Wp 255 22 [some (pR 1), some (pI l1), some (pR 195), none] [] LY nx (h, r, s) Q)) ∧
  (∀ (l1 : Int) (nx : Nat) (h r : PF) (s : Int → Int) (Q : PO → PY → Nat → PC → Prop), (Wp 255 19 [some (pR 1), some (pI l1), some (pR 195), none] [pR (-2000)] LY nx (h, r, s) Q ↔ Wp 255 20 [some (pR 1), some (pI l1), some (pR 195), some (pR (-2000))] [] LY nx (h, r, s) Q)) ∧
  (∀ (l1 : Int) (nx : Nat) (h r : PF) (s : Int → Int) (Q : PO → PY → Nat → PC → Prop), (Wp 255 20 [some (pR 1), some (pI l1), some (pR 195), some (pR (-2000))] [] LY nx (h, r, s) Q ↔ Wp 255 21 [some (pR 1), some (pI l1), some (pR 195), some (pR (-2000))] [pI 1] LY nx (h, r, s) Q)) ∧
  (∀ (l1 : Int) (x0 : Int) (nx : Nat) (h r : PF) (s : Int → Int) (Q : PO → PY → Nat → PC → Prop), (Wp 255 21 [some (pR 1), some (pI l1), some (pR 195), some (pR (-2000))] [pI x0] LY nx (h, r, s) Q ↔ Q (Sum.inl (some (pI x0))) LY nx (h, r, s))) ∧
  (∀ (l1 : Int) (nx : Nat) (h r : PF) (s : Int → Int) (Q : PO → PY → Nat → PC → Prop), (Wp 255 22 [some (pR 1), some (pI l1), some (pR 195), none] [] LY nx (h, r, s) Q ↔ Wp 255 23 [some (pR 1), some (pI l1), some (pR 195), none] [pI 0] LY nx (h, r, s) Q)) ∧
  (∀ (l1 : Int) (x0 : Int) (nx : Nat) (h r : PF) (s : Int → Int) (Q : PO → PY → Nat → PC → Prop), (Wp 255 23 [some (pR 1), some (pI l1), some (pR 195), none] [pI x0] LY nx (h, r, s) Q ↔ Q (Sum.inl (some (pI x0))) LY nx (h, r, s))) :=
  ⟨fun l1 nx h r s Q  => o_aload_n (by decide +kernel : pcode 255 0 = some (10, 2, 0, 0, 0)) rfl,
  fun l1 nx h r s Q  => o_iconst (by decide +kernel : pcode 255 1 = some (1, 0, 0, 0, 0)),
  fun l1 x1 nx h r s Q  => o_aload_n (by decide +kernel : pcode 255 2 = some (10, 0, 0, 0, 0)) rfl,
  fun l1 x1 nx h r s Q  => o_iload_n (by decide +kernel : pcode 255 3 = some (6, 1, 0, 0, 0)) rfl,
  fun l1 x1 x3 nx h r s Q  => o_ivV (s1 := [pI x3]) (s2 := [pI x1, pR 195]) (o := 1) (by decide +kernel : pcode 255 4 = some (78, 116, 2, 1160, 96)) rfl (Nat.le_of_ble_eq_true rfl) (by decide) (by decide +kernel) rfl rfl rfl,
  fun l1 x1 x2 nx h r s Q  => o_if_eq (by decide +kernel : pcode 255 7 = some (41, 14, 0, 0, 7)),
  fun l1 x1 nx h r s Q  => o_lconst (by decide +kernel : pcode 255 10 = some (4, 0, 0, 0, 1)),
  fun l1 x1 x2 nx h r s Q  => o_goto (by decide +kernel : pcode 255 11 = some (53, 15, 0, 0, 4)),
  fun l1 x1 nx h r s Q  => o_lconst (by decide +kernel : pcode 255 14 = some (4, 0, 0, 0, 0)),
  fun l1 x1 x2 nx h r s Q hi hn => o_last (h := (h, r, s)) (n := 1) (by decide +kernel : pcode 255 15 = some (66, 0, 0, 0, 0)) (by decide) (by decide +kernel) hi hn,
  fun l1 nx h r s Q  => o_goto (by decide +kernel : pcode 255 16 = some (53, 22, 0, 0, 6)),
  fun l1 nx h r s Q  => o_astore_n (by decide +kernel : pcode 255 19 = some (16, 3, 0, 0, 0)) rfl,
  fun l1 nx h r s Q  => o_iconst (by decide +kernel : pcode 255 20 = some (1, 0, 0, 0, 1)),
  fun l1 x0 nx h r s Q  => o_iret (by decide +kernel : pcode 255 21 = some (87, 0, 0, 0, 0)),
  fun l1 nx h r s Q  => o_iconst (by decide +kernel : pcode 255 22 = some (1, 0, 0, 0, 0)),
  fun l1 x0 nx h r s Q  => o_iret (by decide +kernel : pcode 255 23 = some (87, 0, 0, 0, 0))⟩
set_option maxHeartbeats 4000000 in
set_option maxRecDepth 10000 in
theorem st_L_restoreSnapshot :
  (∀ (l1 : Int) (nx : Nat) (h r : PF) (s : Int → Int) (Q : PO → PY → Nat → PC → Prop), (Wp 256 0 [some (pR 1), some (pI l1), some (pR 195), none] [] LY nx (h, r, s) Q ↔ Wp 256 1 [some (pR 1), some (pI l1), some (pR 195), none] [pR 195] LY nx (h, r, s) Q)) ∧
  (∀ (l1 : Int) (nx : Nat) (h r : PF) (s : Int → Int) (Q : PO → PY → Nat → PC → Prop), (Wp 256 1 [some (pR 1), some (pI l1), some (pR 195), none] [pR 195] LY nx (h, r, s) Q ↔ Wp 256 2 [some (pR 1), some (pI l1), some (pR 195), none] [pI 0, pR 195] LY nx (h, r, s) Q)) ∧
  (∀ (l1 : Int) (x1 : Int) (nx : Nat) (h r : PF) (s : Int → Int) (Q : PO → PY → Nat → PC → Prop), (Wp 256 2 [some (pR 1), some (pI l1), some (pR 195), none] [pI x1, pR 195] LY nx (h, r, s) Q ↔ Wp 256 3 [some (pR 1), some (pI l1), some (pR 195), none] [pR 1, pI x1, pR 195] LY nx (h, r, s) Q)) ∧
  (∀ (l1 : Int) (x1 : Int) (nx : Nat) (h r : PF) (s : Int → Int) (Q : PO → PY → Nat → PC → Prop), (Wp 256 3 [some (pR 1), some (pI l1), some (pR 195), none] [pR 1, pI x1, pR 195] LY nx (h, r, s) Q ↔ Wp 256 4 [some (pR 1), some (pI l1), some (pR 195), none] [pI l1, pR 1, pI x1, pR 195] LY nx (h, r, s) Q)) ∧
  (∀ (l1 : Int) (x1 : Int) (x3 : Int) (nx : Nat) (h r : PF) (s : Int → Int) (Q : PO → PY → Nat → PC → Prop), (Wp 256 4 [some (pR 1), some (pI l1), some (pR 195), none] [pI x3, pR 1, pI x1, pR 195] LY nx (h, r, s) Q ↔ Wp 117 0 [some (pR 1), some (pI x3)] [] LY nx (h, r, s) (Kc 256 4 [some (pR 1), some (pI l1), some (pR 195), none] 7 [pI x1, pR 195] Q))) ∧
  (∀ (l1 : Int) (x1 : Int) (x2 : Int) (nx : Nat) (h r : PF) (s : Int → Int) (Q : PO → PY → Nat → PC → Prop), (Wp 256 7 [some (pR 1), some (pI l1), some (pR 195), none] [pI x2, pI x1, pR 195] LY nx (h, r, s) Q ↔ Wp 256 8 [some (pR 1), some (pI l1), some (pR 195), none] [pJ x2, pI x1, pR 195] LY nx (h, r, s) Q)) ∧
  (∀ (l1 : Int) (x1 : Int) (x2 : Int) (nx : Nat) (h r : PF) (s : Int → Int) (Q : PO → PY → Nat → PC → Prop), 0 ≤ x1 → x1 < 1 → (Wp 256 8 [some (pR 1), some (pI l1), some (pR 195), none] [pJ x2, pI x1, pR 195] LY nx (h, r, s) Q ↔ Wp 256 9 [some (pR 1), some (pI l1), some (pR 195), none] [] LY nx (fup h 195 x1 x2, r, s) Q)) ∧
  (∀ (l1 : Int) (nx : Nat) (h r : PF) (s : Int → Int) (Q : PO → PY → Nat → PC → Prop), (Wp 256 9 [some (pR 1), some (pI l1), some (pR 195), none] [] LY nx (h, r, s) Q ↔ Wp 256 18 [some (pR 1), some (pI l1), some (pR 195), none] [] LY nx (h, r, s) Q)) ∧
  (∀ (l1 : Int) (nx : Nat) (h r : PF) (s : Int → Int) (Q : PO → PY → Nat → PC → Prop), (Wp 256 12 [some (pR 1), some (pI l1), some (pR 195), none] [pR (-2000)] LY nx (h, r, s) Q ↔ Wp 256 13 [some (pR 1), some (pI l1), some (pR 195), some (pR (-2000))] [] LY nx (h, r, s) Q)) ∧
  (∀ (l1 : Int) (nx : Nat) (h r : PF) (s : Int → Int) (Q : PO → PY → Nat → PC → Prop), (Wp 256 13 [some (pR 1), some (pI l1), some (pR 195), some (pR (-2000))] [] LY nx (h, r, s) Q ↔ Wp 256 14 [some (pR 1), some (pI l1), some (pR 195), some (pR (-2000))] [pI 1] LY nx (h, r, s) Q)) ∧
  (∀ (l1 : Int) (x0 : Int) (nx : Nat) (h r : PF) (s : Int → Int) (Q : PO → PY → Nat → PC → Prop), (Wp 256 14 [some (pR 1), some (pI l1), some (pR 195), some (pR (-2000))] [pI x0] LY nx (h, r, s) Q ↔ Q (Sum.inl (some (pI x0))) LY nx (h, r, s))) ∧
  (∀ (l1 : Int) (nx : Nat) (h r : PF) (s : Int → Int) (Q : PO → PY → Nat → PC → Prop), (Wp 256 15 [some (pR 1), some (pI l1), some (pR 195), none] [pR (-2000)] LY nx (h, r, s) Q ↔ Wp 256 16 [some (pR 1), some (pI l1), some (pR 195), some (pR (-2000))] [] LY nx (h, r, s) Q)) ∧
  (∀ (l1 : Int) (nx : Nat) (h r : PF) (s : Int → Int) (Q : PO → PY → Nat → PC → Prop), (Wp 256 16 [some (pR 1), some (pI l1), some (pR 195), some (pR (-2000))] [] LY nx (h, r, s) Q ↔ Wp 256 17 [some (pR 1), some (pI l1), some (pR 195), some (pR (-2000))] [pI 2] LY nx (h, r, s) Q)) ∧
  (∀ (l1 : Int) (x0 : Int) (nx : Nat) (h r : PF) (s : Int → Int) (Q : PO → PY → Nat → PC → Prop), (Wp 256 17 [some (pR 1), some (pI l1), some (pR 195), some (pR (-2000))] [pI x0] LY nx (h, r, s) Q ↔ Q (Sum.inl (some (pI x0))) LY nx (h, r, s))) ∧
  (∀ (l1 : Int) (nx : Nat) (h r : PF) (s : Int → Int) (Q : PO → PY → Nat → PC → Prop), (Wp 256 18 [some (pR 1), some (pI l1), some (pR 195), none] [] LY nx (h, r, s) Q ↔ Wp 256 19 [some (pR 1), some (pI l1), some (pR 195), none] [pI 0] LY nx (h, r, s) Q)) ∧
  (∀ (l1 : Int) (x0 : Int) (nx : Nat) (h r : PF) (s : Int → Int) (Q : PO → PY → Nat → PC → Prop), (Wp 256 19 [some (pR 1), some (pI l1), some (pR 195), none] [pI x0] LY nx (h, r, s) Q ↔ Q (Sum.inl (some (pI x0))) LY nx (h, r, s))) :=
  ⟨fun l1 nx h r s Q  => o_aload_n (by decide +kernel : pcode 256 0 = some (10, 2, 0, 0, 0)) rfl,
  fun l1 nx h r s Q  => o_iconst (by decide +kernel : pcode 256 1 = some (1, 0, 0, 0, 0)),
  fun l1 x1 nx h r s Q  => o_aload_n (by decide +kernel : pcode 256 2 = some (10, 0, 0, 0, 0)) rfl,
  fun l1 x1 nx h r s Q  => o_iload_n (by decide +kernel : pcode 256 3 = some (6, 1, 0, 0, 0)) rfl,
  fun l1 x1 x3 nx h r s Q  => o_ivV (s1 := [pI x3]) (s2 := [pI x1, pR 195]) (o := 1) (by decide +kernel : pcode 256 4 = some (78, 117, 2, 1178, 99)) rfl (Nat.le_of_ble_eq_true rfl) (by decide) (by decide +kernel) rfl rfl rfl,
  fun l1 x1 x2 nx h r s Q  => o_i2l (by decide +kernel : pcode 256 7 = some (35, 0, 0, 0, 0)),
  fun l1 x1 x2 nx h r s Q hi hn => o_last (h := (h, r, s)) (n := 1) (by decide +kernel : pcode 256 8 = some (66, 0, 0, 0, 0)) (by decide) (by decide +kernel) hi hn,
  fun l1 nx h r s Q  => o_goto (by decide +kernel : pcode 256 9 = some (53, 18, 0, 0, 9)),
  fun l1 nx h r s Q  => o_astore_n (by decide +kernel : pcode 256 12 = some (16, 3, 0, 0, 0)) rfl,
  fun l1 nx h r s Q  => o_iconst (by decide +kernel : pcode 256 13 = some (1, 0, 0, 0, 1)),
  fun l1 x0 nx h r s Q  => o_iret (by decide +kernel : pcode 256 14 = some (87, 0, 0, 0, 0)),
  fun l1 nx h r s Q  => o_astore_n (by decide +kernel : pcode 256 15 = some (16, 3, 0, 0, 0)) rfl,
  fun l1 nx h r s Q  => o_iconst (by decide +kernel : pcode 256 16 = some (1, 0, 0, 0, 2)),
  fun l1 x0 nx h r s Q  => o_iret (by decide +kernel : pcode 256 17 = some (87, 0, 0, 0, 0)),
  fun l1 nx h r s Q  => o_iconst (by decide +kernel : pcode 256 18 = some (1, 0, 0, 0, 0)),
  fun l1 x0 nx h r s Q  => o_iret (by decide +kernel : pcode 256 19 = some (87, 0, 0, 0, 0))⟩
