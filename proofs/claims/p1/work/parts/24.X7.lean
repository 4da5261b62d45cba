set_option maxHeartbeats 4000000 in
set_option maxRecDepth 10000 in
theorem st_X7_append :
  (∀ (l1 : Int) (l2 : Int) (l3 : Int) (l4 : Int) (l5 : Int) (nx : Nat) (h r : PF) (s : Int → Int) (Q : PO → PY → Nat → PC → Prop), (Wp 84 0 [some (pR 1), some (pI l1), some (pI l2), some (pI l3), some (pI l4), some (pI l5)] [] LY nx (h, r, s) Q ↔ Wp 84 1 [some (pR 1), some (pI l1), some (pI l2), some (pI l3), some (pI l4), some (pI l5)] [pR 1] LY nx (h, r, s) Q)) ∧
  (∀ (l1 : Int) (l2 : Int) (l3 : Int) (l4 : Int) (l5 : Int) (nx : Nat) (h r : PF) (s : Int → Int) (Q : PO → PY → Nat → PC → Prop), WFr r → (Wp 84 1 [some (pR 1), some (pI l1), some (pI l2), some (pI l3), some (pI l4), some (pI l5)] [pR 1] LY nx (h, r, s) Q ↔ Wp 84 4 [some (pR 1), some (pI l1), some (pI l2), some (pI l3), some (pI l4), some (pI l5)] [pR 2] LY nx (h, r, s) Q)) ∧
  (∀ (l1 : Int) (l2 : Int) (l3 : Int) (l4 : Int) (l5 : Int) (nx : Nat) (h r : PF) (s : Int → Int) (Q : PO → PY → Nat → PC → Prop), (Wp 84 4 [some (pR 1), some (pI l1), some (pI l2), some (pI l3), some (pI l4), some (pI l5)] [pR 2] LY nx (h, r, s) Q ↔ Wp 84 7 [some (pR 1), some (pI l1), some (pI l2), some (pI l3), some (pI l4), some (pI l5)] [pI (h 2 0)] LY nx (h, r, s) Q)) ∧
  (∀ (l1 : Int) (l2 : Int) (l3 : Int) (l4 : Int) (l5 : Int) (x0 : Int) (nx : Nat) (h r : PF) (s : Int → Int) (Q : PO → PY → Nat → PC → Prop), (Wp 84 7 [some (pR 1), some (pI l1), some (pI l2), some (pI l3), some (pI l4), some (pI l5)] [pI x0] LY nx (h, r, s) Q ↔ Wp 84 9 [some (pR 1), some (pI l1), some (pI l2), some (pI l3), some (pI l4), some (pI l5)] [pI 20, pI x0] LY nx (h, r, s) Q)) ∧
  (∀ (l1 : Int) (l2 : Int) (l3 : Int) (l4 : Int) (l5 : Int) (x0 : Int) (x1 : Int) (nx : Nat) (h r : PF) (s : Int → Int) (Q : PO → PY → Nat → PC → Prop), (Wp 84 9 [some (pR 1), some (pI l1), some (pI l2), some (pI l3), some (pI l4), some (pI l5)] [pI x1, pI x0] LY nx (h, r, s) Q ↔ Wp 84 10 [some (pR 1), some (pI l1), some (pI l2), some (pI l3), some (pI l4), some (pI l5)] [pI (w32 (x0 + x1))] LY nx (h, r, s) Q)) ∧
  (∀ (l1 : Int) (l2 : Int) (l3 : Int) (l4 : Int) (l5 : Int) (x0 : Int) (nx : Nat) (h r : PF) (s : Int → Int) (Q : PO → PY → Nat → PC → Prop), (Wp 84 10 [some (pR 1), some (pI l1), some (pI l2), some (pI l3), some (pI l4), some (pI l5)] [pI x0] LY nx (h, r, s) Q ↔ Wp 84 13 [some (pR 1), some (pI l1), some (pI l2), some (pI l3), some (pI l4), some (pI l5)] [pI 600, pI x0] LY nx (h, r, s) Q)) ∧
  (∀ (l1 : Int) (l2 : Int) (l3 : Int) (l4 : Int) (l5 : Int) (x0 : Int) (x1 : Int) (nx : Nat) (h r : PF) (s : Int → Int) (Q : PO → PY → Nat → PC → Prop), (Wp 84 13 [some (pR 1), some (pI l1), some (pI l2), some (pI l3), some (pI l4), some (pI l5)] [pI x1, pI x0] LY nx (h, r, s) Q ↔ (if x0 ≤ x1 then Wp 84 18 [some (pR 1), some (pI l1), some (pI l2), some (pI l3), some (pI l4), some (pI l5)] [] LY nx (h, r, s) Q else Wp 84 16 [some (pR 1), some (pI l1), some (pI l2), some (pI l3), some (pI l4), some (pI l5)] [] LY nx (h, r, s) Q))) ∧
  (∀ (l1 : Int) (l2 : Int) (l3 : Int) (l4 : Int) (l5 : Int) (nx : Nat) (h r : PF) (s : Int → Int) (Q : PO → PY → Nat → PC → Prop), (Wp 84 16 [some (pR 1), some (pI l1), some (pI l2), some (pI l3), some (pI l4), some (pI l5)] [] LY nx (h, r, s) Q ↔ Wp 84 17 [some (pR 1), some (pI l1), some (pI l2), some (pI l3), some (pI l4), some (pI l5)] [pI (-1)] LY nx (h, r, s) Q)) ∧
  (∀ (l1 : Int) (l2 : Int) (l3 : Int) (l4 : Int) (l5 : Int) (x0 : Int) (nx : Nat) (h r : PF) (s : Int → Int) (Q : PO → PY → Nat → PC → Prop), (Wp 84 17 [some (pR 1), some (pI l1), some (pI l2), some (pI l3), some (pI l4), some (pI l5)] [pI x0] LY nx (h, r, s) Q ↔ Q (Sum.inl (some (pI x0))) LY nx (h, r, s))) ∧
  (∀ (l1 : Int) (l2 : Int) (l3 : Int) (l4 : Int) (l5 : Int) (nx : Nat) (h r : PF) (s : Int → Int) (Q : PO → PY → Nat → PC → Prop), (Wp 84 18 [some (pR 1), some (pI l1), some (pI l2), some (pI l3), some (pI l4), some (pI l5)] [] LY nx (h, r, s) Q ↔ Wp 84 19 [some (pR 1), some (pI l1), some (pI l2), some (pI l3), some (pI l4), some (pI l5)] [pR 1] LY nx (h, r, s) Q)) ∧
  (∀ (l1 : Int) (l2 : Int) (l3 : Int) (l4 : Int) (l5 : Int) (nx : Nat) (h r : PF) (s : Int → Int) (Q : PO → PY → Nat → PC → Prop), WFr r → (Wp 84 19 [some (pR 1), some (pI l1), some (pI l2), some (pI l3), some (pI l4), some (pI l5)] [pR 1] LY nx (h, r, s) Q ↔ Wp 84 22 [some (pR 1), some (pI l1), some (pI l2), some (pI l3), some (pI l4), some (pI l5)] [pR 2] LY nx (h, r, s) Q)) ∧
  (∀ (l1 : Int) (l2 : Int) (l3 : Int) (l4 : Int) (l5 : Int) (nx : Nat) (h r : PF) (s : Int → Int) (Q : PO → PY → Nat → PC → Prop), (Wp 84 22 [some (pR 1), some (pI l1), some (pI l2), some (pI l3), some (pI l4), some (pI l5)] [pR 2] LY nx (h, r, s) Q ↔ Wp 84 23 [some (pR 1), some (pI l1), some (pI l2), some (pI l3), some (pI l4), some (pI l5)] [pI l1, pR 2] LY nx (h, r, s) Q)) ∧
  (∀ (l1 : Int) (l2 : Int) (l3 : Int) (l4 : Int) (l5 : Int) (x1 : Int) (nx : Nat) (h r : PF) (s : Int → Int) (Q : PO → PY → Nat → PC → Prop), (Wp 84 23 [some (pR 1), some (pI l1), some (pI l2), some (pI l3), some (pI l4), some (pI l5)] [pI x1, pR 2] LY nx (h, r, s) Q ↔ Wp 25 0 [some (pR 2), some (pI x1), none] [] LY nx (h, r, s) (Kc 84 23 [some (pR 1), some (pI l1), some (pI l2), some (pI l3), some (pI l4), some (pI l5)] 26 [] Q))) ∧
  (∀ (l1 : Int) (l2 : Int) (l3 : Int) (l4 : Int) (l5 : Int) (nx : Nat) (h r : PF) (s : Int → Int) (Q : PO → PY → Nat → PC → Prop), (Wp 84 26 [some (pR 1), some (pI l1), some (pI l2), some (pI l3), some (pI l4), some (pI l5)] [] LY nx (h, r, s) Q ↔ Wp 84 27 [some (pR 1), some (pI l1), some (pI l2), some (pI l3), some (pI l4), some (pI l5)] [pR 1] LY nx (h, r, s) Q)) ∧
  (∀ (l1 : Int) (l2 : Int) (l3 : Int) (l4 : Int) (l5 : Int) (nx : Nat) (h r : PF) (s : Int → Int) (Q : PO → PY → Nat → PC → Prop), WFr r → (Wp 84 27 [some (pR 1), some (pI l1), some (pI l2), some (pI l3), some (pI l4), some (pI l5)] [pR 1] LY nx (h, r, s) Q ↔ Wp 84 30 [some (pR 1), some (pI l1), some (pI l2), some (pI l3), some (pI l4), some (pI l5)] [pR 2] LY nx (h, r, s) Q)) ∧
  (∀ (l1 : Int) (l2 : Int) (l3 : Int) (l4 : Int) (l5 : Int) (nx : Nat) (h r : PF) (s : Int → Int) (Q : PO → PY → Nat → PC → Prop), (Wp 84 30 [some (pR 1), some (pI l1), some (pI l2), some (pI l3), some (pI l4), some (pI l5)] [pR 2] LY nx (h, r, s) Q ↔ Wp 84 31 [some (pR 1), some (pI l1), some (pI l2), some (pI l3), some (pI l4), some (pI l5)] [pI l2, pR 2] LY nx (h, r, s) Q)) ∧
  (∀ (l1 : Int) (l2 : Int) (l3 : Int) (l4 : Int) (l5 : Int) (x1 : Int) (nx : Nat) (h r : PF) (s : Int → Int) (Q : PO → PY → Nat → PC → Prop), (Wp 84 31 [some (pR 1), some (pI l1), some (pI l2), some (pI l3), some (pI l4), some (pI l5)] [pI x1, pR 2] LY nx (h, r, s) Q ↔ Wp 25 0 [some (pR 2), some (pI x1), none] [] LY nx (h, r, s) (Kc 84 31 [some (pR 1), some (pI l1), some (pI l2), some (pI l3), some (pI l4), some (pI l5)] 34 [] Q))) ∧
  (∀ (l1 : Int) (l2 : Int) (l3 : Int) (l4 : Int) (l5 : Int) (nx : Nat) (h r : PF) (s : Int → Int) (Q : PO → PY → Nat → PC → Prop), (Wp 84 34 [some (pR 1), some (pI l1), some (pI l2), some (pI l3), some (pI l4), some (pI l5)] [] LY nx (h, r, s) Q ↔ Wp 84 35 [some (pR 1), some (pI l1), some (pI l2), some (pI l3), some (pI l4), some (pI l5)] [pR 1] LY nx (h, r, s) Q)) ∧
  (∀ (l1 : Int) (l2 : Int) (l3 : Int) (l4 : Int) (l5 : Int) (nx : Nat) (h r : PF) (s : Int → Int) (Q : PO → PY → Nat → PC → Prop), WFr r → (Wp 84 35 [some (pR 1), some (pI l1), some (pI l2), some (pI l3), some (pI l4), some (pI l5)] [pR 1] LY nx (h, r, s) Q ↔ Wp 84 38 [some (pR 1), some (pI l1), some (pI l2), some (pI l3), some (pI l4), some (pI l5)] [pR 2] LY nx (h, r, s) Q)) ∧
  (∀ (l1 : Int) (l2 : Int) (l3 : Int) (l4 : Int) (l5 : Int) (nx : Nat) (h r : PF) (s : Int → Int) (Q : PO → PY → Nat → PC → Prop), (Wp 84 38 [some (pR 1), some (pI l1), some (pI l2), some (pI l3), some (pI l4), some (pI l5)] [pR 2] LY nx (h, r, s) Q ↔ Wp 84 39 [some (pR 1), some (pI l1), some (pI l2), some (pI l3), some (pI l4), some (pI l5)] [pI l3, pR 2] LY nx (h, r, s) Q)) ∧
  (∀ (l1 : Int) (l2 : Int) (l3 : Int) (l4 : Int) (l5 : Int) (x1 : Int) (nx : Nat) (h r : PF) (s : Int → Int) (Q : PO → PY → Nat → PC → Prop), (Wp 84 39 [some (pR 1), some (pI l1), some (pI l2), some (pI l3), some (pI l4), some (pI l5)] [pI x1, pR 2] LY nx (h, r, s) Q ↔ Wp 25 0 [some (pR 2), some (pI x1), none] [] LY nx (h, r, s) (Kc 84 39 [some (pR 1), some (pI l1), some (pI l2), some (pI l3), some (pI l4), some (pI l5)] 42 [] Q))) ∧
  (∀ (l1 : Int) (l2 : Int) (l3 : Int) (l4 : Int) (l5 : Int) (nx : Nat) (h r : PF) (s : Int → Int) (Q : PO → PY → Nat → PC → Prop), (Wp 84 42 [some (pR 1), some (pI l1), some (pI l2), some (pI l3), some (pI l4), some (pI l5)] [] LY nx (h, r, s) Q ↔ Wp 84 43 [some (pR 1), some (pI l1), some (pI l2), some (pI l3), some (pI l4), some (pI l5)] [pR 1] LY nx (h, r, s) Q)) ∧
  (∀ (l1 : Int) (l2 : Int) (l3 : Int) (l4 : Int) (l5 : Int) (nx : Nat) (h r : PF) (s : Int → Int) (Q : PO → PY → Nat → PC → Prop), WFr r → (Wp 84 43 [some (pR 1), some (pI l1), some (pI l2), some (pI l3), some (pI l4), some (pI l5)] [pR 1] LY nx (h, r, s) Q ↔ Wp 84 46 [some (pR 1), some (pI l1), some (pI l2), some (pI l3), some (pI l4), some (pI l5)] [pR 2] LY nx (h, r, s) Q)) ∧
  (∀ (l1 : Int) (l2 : Int) (l3 : Int) (l4 : Int) (l5 : Int) (nx : Nat) (h r : PF) (s : Int → Int) (Q : PO → PY → Nat → PC → Prop), (Wp 84 46 [some (pR 1), some (pI l1), some (pI l2), some (pI l3), some (pI l4), some (pI l5)] [pR 2] LY nx (h, r, s) Q ↔ Wp 84 48 [some (pR 1), some (pI l1), some (pI l2), some (pI l3), some (pI l4), some (pI l5)] [pI l4, pR 2] LY nx (h, r, s) Q)) ∧
  (∀ (l1 : Int) (l2 : Int) (l3 : Int) (l4 : Int) (l5 : Int) (x1 : Int) (nx : Nat) (h r : PF) (s : Int → Int) (Q : PO → PY → Nat → PC → Prop), (Wp 84 48 [some (pR 1), some (pI l1), some (pI l2), some (pI l3), some (pI l4), some (pI l5)] [pI x1, pR 2] LY nx (h, r, s) Q ↔ Wp 25 0 [some (pR 2), some (pI x1), none] [] LY nx (h, r, s) (Kc 84 48 [some (pR 1), some (pI l1), some (pI l2), some (pI l3), some (pI l4), some (pI l5)] 51 [] Q))) ∧
  (∀ (l1 : Int) (l2 : Int) (l3 : Int) (l4 : Int) (l5 : Int) (nx : Nat) (h r : PF) (s : Int → Int) (Q : PO → PY → Nat → PC → Prop), (Wp 84 51 [some (pR 1), some (pI l1), some (pI l2), some (pI l3), some (pI l4), some (pI l5)] [] LY nx (h, r, s) Q ↔ Wp 84 52 [some (pR 1), some (pI l1), some (pI l2), some (pI l3), some (pI l4), some (pI l5)] [pR 1] LY nx (h, r, s) Q)) ∧
  (∀ (l1 : Int) (l2 : Int) (l3 : Int) (l4 : Int) (l5 : Int) (nx : Nat) (h r : PF) (s : Int → Int) (Q : PO → PY → Nat → PC → Prop), WFr r → (Wp 84 52 [some (pR 1), some (pI l1), some (pI l2), some (pI l3), some (pI l4), some (pI l5)] [pR 1] LY nx (h, r, s) Q ↔ Wp 84 55 [some (pR 1), some (pI l1), some (pI l2), some (pI l3), some (pI l4), some (pI l5)] [pR 2] LY nx (h, r, s) Q)) ∧
  (∀ (l1 : Int) (l2 : Int) (l3 : Int) (l4 : Int) (l5 : Int) (nx : Nat) (h r : PF) (s : Int → Int) (Q : PO → PY → Nat → PC → Prop), (Wp 84 55 [some (pR 1), some (pI l1), some (pI l2), some (pI l3), some (pI l4), some (pI l5)] [pR 2] LY nx (h, r, s) Q ↔ Wp 84 57 [some (pR 1), some (pI l1), some (pI l2), some (pI l3), some (pI l4), some (pI l5)] [pI l5, pR 2] LY nx (h, r, s) Q)) ∧
  (∀ (l1 : Int) (l2 : Int) (l3 : Int) (l4 : Int) (l5 : Int) (x1 : Int) (nx : Nat) (h r : PF) (s : Int → Int) (Q : PO → PY → Nat → PC → Prop), (Wp 84 57 [some (pR 1), some (pI l1), some (pI l2), some (pI l3), some (pI l4), some (pI l5)] [pI x1, pR 2] LY nx (h, r, s) Q ↔ Wp 25 0 [some (pR 2), some (pI x1), none] [] LY nx (h, r, s) (Kc 84 57 [some (pR 1), some (pI l1), some (pI l2), some (pI l3), some (pI l4), some (pI l5)] 60 [] Q))) ∧
  (∀ (l1 : Int) (l2 : Int) (l3 : Int) (l4 : Int) (l5 : Int) (nx : Nat) (h r : PF) (s : Int → Int) (Q : PO → PY → Nat → PC → Prop), (Wp 84 60 [some (pR 1), some (pI l1), some (pI l2), some (pI l3), some (pI l4), some (pI l5)] [] LY nx (h, r, s) Q ↔ Wp 84 61 [some (pR 1), some (pI l1), some (pI l2), some (pI l3), some (pI l4), some (pI l5)] [pR 1] LY nx (h, r, s) Q)) ∧
  (∀ (l1 : Int) (l2 : Int) (l3 : Int) (l4 : Int) (l5 : Int) (nx : Nat) (h r : PF) (s : Int → Int) (Q : PO → PY → Nat → PC → Prop), WFr r → (Wp 84 61 [some (pR 1), some (pI l1), some (pI l2), some (pI l3), some (pI l4), some (pI l5)] [pR 1] LY nx (h, r, s) Q ↔ Wp 84 64 [some (pR 1), some (pI l1), some (pI l2), some (pI l3), some (pI l4), some (pI l5)] [pR 2] LY nx (h, r, s) Q)) ∧
  (∀ (l1 : Int) (l2 : Int) (l3 : Int) (l4 : Int) (l5 : Int) (nx : Nat) (h r : PF) (s : Int → Int) (Q : PO → PY → Nat → PC → Prop), (Wp 84 64 [some (pR 1), some (pI l1), some (pI l2), some (pI l3), some (pI l4), some (pI l5)] [pR 2] LY nx (h, r, s) Q ↔ Wp 84 67 [some (pR 1), some (pI l1), some (pI l2), some (pI l3), some (pI l4), some (pI l5)] [pI (h 2 0)] LY nx (h, r, s) Q)) ∧
  (∀ (l1 : Int) (l2 : Int) (l3 : Int) (l4 : Int) (l5 : Int) (x0 : Int) (nx : Nat) (h r : PF) (s : Int → Int) (Q : PO → PY → Nat → PC → Prop), (Wp 84 67 [some (pR 1), some (pI l1), some (pI l2), some (pI l3), some (pI l4), some (pI l5)] [pI x0] LY nx (h, r, s) Q ↔ Q (Sum.inl (some (pI x0))) LY nx (h, r, s))) :=
  ⟨fun l1 l2 l3 l4 l5 nx h r s Q  => o_aload_n (by decide +kernel : pcode 84 0 = some (10, 0, 0, 0, 0)) rfl,
  fun l1 l2 l3 l4 l5 nx h r s Q hw => o_getR (h := (h, r, s)) (by decide +kernel : pcode 84 1 = some (57, 442, 7, 0, 10)) (by decide) (by decide +kernel) (hw _ (List.mem_of_getElem? (i := 0) rfl)) (by decide),
  fun l1 l2 l3 l4 l5 nx h r s Q  => o_getI (by decide +kernel : pcode 84 4 = some (55, 162, 3, 0, 61)) (by decide) (by decide +kernel),
  fun l1 l2 l3 l4 l5 x0 nx h r s Q  => o_bipush (by decide +kernel : pcode 84 7 = some (2, 0, 0, 0, 20)),
  fun l1 l2 l3 l4 l5 x0 x1 nx h r s Q  => o_iadd (by decide +kernel : pcode 84 9 = some (19, 0, 0, 0, 0)),
  fun l1 l2 l3 l4 l5 x0 nx h r s Q  => o_sipush (by decide +kernel : pcode 84 10 = some (3, 0, 0, 0, 600)),
  fun l1 l2 l3 l4 l5 x0 x1 nx h r s Q  => o_icmp_le (by decide +kernel : pcode 84 13 = some (52, 18, 0, 0, 5)),
  fun l1 l2 l3 l4 l5 nx h r s Q  => o_iconst (by decide +kernel : pcode 84 16 = some (1, 0, 0, 0, -1)),
  fun l1 l2 l3 l4 l5 x0 nx h r s Q  => o_iret (by decide +kernel : pcode 84 17 = some (87, 0, 0, 0, 0)),
  fun l1 l2 l3 l4 l5 nx h r s Q  => o_aload_n (by decide +kernel : pcode 84 18 = some (10, 0, 0, 0, 0)) rfl,
  fun l1 l2 l3 l4 l5 nx h r s Q hw => o_getR (h := (h, r, s)) (by decide +kernel : pcode 84 19 = some (57, 442, 7, 0, 10)) (by decide) (by decide +kernel) (hw _ (List.mem_of_getElem? (i := 0) rfl)) (by decide),
  fun l1 l2 l3 l4 l5 nx h r s Q  => o_iload_n (by decide +kernel : pcode 84 22 = some (6, 1, 0, 0, 0)) rfl,
  fun l1 l2 l3 l4 l5 x1 nx h r s Q  => o_ivV (s1 := [pI x1]) (s2 := []) (o := 2) (by decide +kernel : pcode 84 23 = some (78, 25, 2, 471, 65)) rfl (Nat.le_of_ble_eq_true rfl) (by decide) (by decide +kernel) rfl rfl rfl,
  fun l1 l2 l3 l4 l5 nx h r s Q  => o_aload_n (by decide +kernel : pcode 84 26 = some (10, 0, 0, 0, 0)) rfl,
  fun l1 l2 l3 l4 l5 nx h r s Q hw => o_getR (h := (h, r, s)) (by decide +kernel : pcode 84 27 = some (57, 442, 7, 0, 10)) (by decide) (by decide +kernel) (hw _ (List.mem_of_getElem? (i := 0) rfl)) (by decide),
  fun l1 l2 l3 l4 l5 nx h r s Q  => o_iload_n (by decide +kernel : pcode 84 30 = some (6, 2, 0, 0, 0)) rfl,
  fun l1 l2 l3 l4 l5 x1 nx h r s Q  => o_ivV (s1 := [pI x1]) (s2 := []) (o := 2) (by decide +kernel : pcode 84 31 = some (78, 25, 2, 471, 65)) rfl (Nat.le_of_ble_eq_true rfl) (by decide) (by decide +kernel) rfl rfl rfl,
  fun l1 l2 l3 l4 l5 nx h r s Q  => o_aload_n (by decide +kernel : pcode 84 34 = some (10, 0, 0, 0, 0)) rfl,
  fun l1 l2 l3 l4 l5 nx h r s Q hw => o_getR (h := (h, r, s)) (by decide +kernel : pcode 84 35 = some (57, 442, 7, 0, 10)) (by decide) (by decide +kernel) (hw _ (List.mem_of_getElem? (i := 0) rfl)) (by decide),
  fun l1 l2 l3 l4 l5 nx h r s Q  => o_iload_n (by decide +kernel : pcode 84 38 = some (6, 3, 0, 0, 0)) rfl,
  fun l1 l2 l3 l4 l5 x1 nx h r s Q  => o_ivV (s1 := [pI x1]) (s2 := []) (o := 2) (by decide +kernel : pcode 84 39 = some (78, 25, 2, 471, 65)) rfl (Nat.le_of_ble_eq_true rfl) (by decide) (by decide +kernel) rfl rfl rfl,
  fun l1 l2 l3 l4 l5 nx h r s Q  => o_aload_n (by decide +kernel : pcode 84 42 = some (10, 0, 0, 0, 0)) rfl,
  fun l1 l2 l3 l4 l5 nx h r s Q hw => o_getR (h := (h, r, s)) (by decide +kernel : pcode 84 43 = some (57, 442, 7, 0, 10)) (by decide) (by decide +kernel) (hw _ (List.mem_of_getElem? (i := 0) rfl)) (by decide),
  fun l1 l2 l3 l4 l5 nx h r s Q  => o_iload (by decide +kernel : pcode 84 46 = some (7, 4, 0, 0, 0)) rfl,
  fun l1 l2 l3 l4 l5 x1 nx h r s Q  => o_ivV (s1 := [pI x1]) (s2 := []) (o := 2) (by decide +kernel : pcode 84 48 = some (78, 25, 2, 471, 65)) rfl (Nat.le_of_ble_eq_true rfl) (by decide) (by decide +kernel) rfl rfl rfl,
  fun l1 l2 l3 l4 l5 nx h r s Q  => o_aload_n (by decide +kernel : pcode 84 51 = some (10, 0, 0, 0, 0)) rfl,
  fun l1 l2 l3 l4 l5 nx h r s Q hw => o_getR (h := (h, r, s)) (by decide +kernel : pcode 84 52 = some (57, 442, 7, 0, 10)) (by decide) (by decide +kernel) (hw _ (List.mem_of_getElem? (i := 0) rfl)) (by decide),
  fun l1 l2 l3 l4 l5 nx h r s Q  => o_iload (by decide +kernel : pcode 84 55 = some (7, 5, 0, 0, 0)) rfl,
  fun l1 l2 l3 l4 l5 x1 nx h r s Q  => o_ivV (s1 := [pI x1]) (s2 := []) (o := 2) (by decide +kernel : pcode 84 57 = some (78, 25, 2, 471, 65)) rfl (Nat.le_of_ble_eq_true rfl) (by decide) (by decide +kernel) rfl rfl rfl,
  fun l1 l2 l3 l4 l5 nx h r s Q  => o_aload_n (by decide +kernel : pcode 84 60 = some (10, 0, 0, 0, 0)) rfl,
  fun l1 l2 l3 l4 l5 nx h r s Q hw => o_getR (h := (h, r, s)) (by decide +kernel : pcode 84 61 = some (57, 442, 7, 0, 10)) (by decide) (by decide +kernel) (hw _ (List.mem_of_getElem? (i := 0) rfl)) (by decide),
  fun l1 l2 l3 l4 l5 nx h r s Q  => o_getI (by decide +kernel : pcode 84 64 = some (55, 162, 3, 0, 61)) (by decide) (by decide +kernel),
  fun l1 l2 l3 l4 l5 x0 nx h r s Q  => o_iret (by decide +kernel : pcode 84 67 = some (87, 0, 0, 0, 0))⟩
set_option maxHeartbeats 4000000 in
set_option maxRecDepth 10000 in
theorem st_X7_parse :
  (∀ (l1 : Int) (nx : Nat) (h r : PF) (s : Int → Int) (Q : PO → PY → Nat → PC → Prop), (Wp 85 0 [some (pR 1), some (pI l1), none, none] [] LY nx (h, r, s) Q ↔ Wp 85 1 [some (pR 1), some (pI l1), none, none] [pI l1] LY nx (h, r, s) Q)) ∧
  (∀ (l1 : Int) (x0 : Int) (nx : Nat) (h r : PF) (s : Int → Int) (Q : PO → PY → Nat → PC → Prop), (Wp 85 1 [some (pR 1), some (pI l1), none, none] [pI x0] LY nx (h, r, s) Q ↔ Wp 85 2 [some (pR 1), some (pI l1), none, none] [pI 0, pI x0] LY nx (h, r, s) Q)) ∧
  (∀ (l1 : Int) (x0 : Int) (x1 : Int) (nx : Nat) (h r : PF) (s : Int → Int) (Q : PO → PY → Nat → PC → Prop), (Wp 85 2 [some (pR 1), some (pI l1), none, none] [pI x1, pI x0] LY nx (h, r, s) Q ↔ Wp 85 3 [some (pR 1), some (pI l1), none, none] [pR 1, pI x1, pI x0] LY nx (h, r, s) Q)) ∧
  (∀ (l1 : Int) (x0 : Int) (x1 : Int) (nx : Nat) (h r : PF) (s : Int → Int) (Q : PO → PY → Nat → PC → Prop), WFr r → (Wp 85 3 [some (pR 1), some (pI l1), none, none] [pR 1, pI x1, pI x0] LY nx (h, r, s) Q ↔ Wp 85 6 [some (pR 1), some (pI l1), none, none] [pR 2, pI x1, pI x0] LY nx (h, r, s) Q)) ∧
  (∀ (l1 : Int) (x0 : Int) (x1 : Int) (nx : Nat) (h r : PF) (s : Int → Int) (Q : PO → PY → Nat → PC → Prop), (Wp 85 6 [some (pR 1), some (pI l1), none, none] [pR 2, pI x1, pI x0] LY nx (h, r, s) Q ↔ Wp 85 9 [some (pR 1), some (pI l1), none, none] [pI (h 2 0), pI x1, pI x0] LY nx (h, r, s) Q)) ∧
  (∀ (l1 : Int) (x0 : Int) (x1 : Int) (x2 : Int) (nx : Nat) (h r : PF) (s : Int → Int) (Q : PO → PY → Nat → PC → Prop), (Wp 85 9 [some (pR 1), some (pI l1), none, none] [pI x2, pI x1, pI x0] LY nx (h, r, s) Q ↔ Wp 123 0 [some (pI x0), some (pI x1), some (pI x2)] [] LY nx (h, r, s) (Kc 85 9 [some (pR 1), some (pI l1), none, none] 12 [] Q))) ∧
  (∀ (l1 : Int) (nx : Nat) (h r : PF) (s : Int → Int) (Q : PO → PY → Nat → PC → Prop), (Wp 85 12 [some (pR 1), some (pI l1), none, none] [] LY nx (h, r, s) Q ↔ Wp 85 13 [some (pR 1), some (pI l1), none, none] [pR 1] LY nx (h, r, s) Q)) ∧
  (∀ (l1 : Int) (nx : Nat) (h r : PF) (s : Int → Int) (Q : PO → PY → Nat → PC → Prop), WFr r → (Wp 85 13 [some (pR 1), some (pI l1), none, none] [pR 1] LY nx (h, r, s) Q ↔ Wp 85 16 [some (pR 1), some (pI l1), none, none] [pR 2] LY nx (h, r, s) Q)) ∧
  (∀ (l1 : Int) (nx : Nat) (h r : PF) (s : Int → Int) (Q : PO → PY → Nat → PC → Prop), (Wp 85 16 [some (pR 1), some (pI l1), none, none] [pR 2] LY nx (h, r, s) Q ↔ Wp 85 17 [some (pR 1), some (pI l1), none, none] [pR 1, pR 2] LY nx (h, r, s) Q)) ∧
  (∀ (l1 : Int) (nx : Nat) (h r : PF) (s : Int → Int) (Q : PO → PY → Nat → PC → Prop), 0 < (r 1 7) → (Wp 85 17 [some (pR 1), some (pI l1), none, none] [pR 1, pR 2] LY nx (h, r, s) Q ↔ Wp 85 20 [some (pR 1), some (pI l1), none, none] [pR (r 1 7), pR 2] LY nx (h, r, s) Q)) ∧
  (∀ (l1 : Int) (x1 : Int) (nx : Nat) (h r : PF) (s : Int → Int) (Q : PO → PY → Nat → PC → Prop), (Wp 85 20 [some (pR 1), some (pI l1), none, none] [pR x1, pR 2] LY nx (h, r, s) Q ↔ Wp 85 21 [some (pR 1), some (pI l1), none, none] [pI l1, pR x1, pR 2] LY nx (h, r, s) Q)) ∧
  (∀ (l1 : Int) (x1 : Int) (x2 : Int) (nx : Nat) (h r : PF) (s : Int → Int) (Q : PO → PY → Nat → PC → Prop), (Wp 85 21 [some (pR 1), some (pI l1), none, none] [pI x2, pR x1, pR 2] LY nx (h, r, s) Q ↔ Wp 26 0 [some (pR 2), some (pR x1), some (pI x2), none, none] [] LY nx (h, r, s) (Kc 85 21 [some (pR 1), some (pI l1), none, none] 24 [] Q))) ∧
  (∀ (l1 : Int) (x0 : Int) (nx : Nat) (h r : PF) (s : Int → Int) (Q : PO → PY → Nat → PC → Prop), (Wp 85 24 [some (pR 1), some (pI l1), none, none] [pI x0] LY nx (h, r, s) Q ↔ Wp 85 25 [some (pR 1), some (pI l1), some (pI x0), none] [] LY nx (h, r, s) Q)) ∧
  (∀ (l1 : Int) (l2 : Int) (nx : Nat) (h r : PF) (s : Int → Int) (Q : PO → PY → Nat → PC → Prop), (Wp 85 25 [some (pR 1), some (pI l1), some (pI l2), none] [] LY nx (h, r, s) Q ↔ Wp 85 26 [some (pR 1), some (pI l1), some (pI l2), none] [pR 1] LY nx (h, r, s) Q)) ∧
  (∀ (l1 : Int) (l2 : Int) (nx : Nat) (h r : PF) (s : Int → Int) (Q : PO → PY → Nat → PC → Prop), WFr r → (Wp 85 26 [some (pR 1), some (pI l1), some (pI l2), none] [pR 1] LY nx (h, r, s) Q ↔ Wp 85 29 [some (pR 1), some (pI l1), some (pI l2), none] [pR 2] LY nx (h, r, s) Q)) ∧
  (∀ (l1 : Int) (l2 : Int) (nx : Nat) (h r : PF) (s : Int → Int) (Q : PO → PY → Nat → PC → Prop), (Wp 85 29 [some (pR 1), some (pI l1), some (pI l2), none] [pR 2] LY nx (h, r, s) Q ↔ Wp 85 30 [some (pR 1), some (pI l1), some (pI l2), none] [pI 0, pR 2] LY nx (h, r, s) Q)) ∧
  (∀ (l1 : Int) (l2 : Int) (x1 : Int) (nx : Nat) (h r : PF) (s : Int → Int) (Q : PO → PY → Nat → PC → Prop), (Wp 85 30 [some (pR 1), some (pI l1), some (pI l2), none] [pI x1, pR 2] LY nx (h, r, s) Q ↔ Wp 85 33 [some (pR 1), some (pI l1), some (pI l2), none] [] LY nx (fup h 2 0 x1, r, s) Q)) ∧
  (∀ (l1 : Int) (l2 : Int) (nx : Nat) (h r : PF) (s : Int → Int) (Q : PO → PY → Nat → PC → Prop), (Wp 85 33 [some (pR 1), some (pI l1), some (pI l2), none] [] LY nx (h, r, s) Q ↔ Wp 85 34 [some (pR 1), some (pI l1), some (pI l2), none] [pI l2] LY nx (h, r, s) Q)) ∧
  (∀ (l1 : Int) (l2 : Int) (x0 : Int) (nx : Nat) (h r : PF) (s : Int → Int) (Q : PO → PY → Nat → PC → Prop), (Wp 85 34 [some (pR 1), some (pI l1), some (pI l2), none] [pI x0] LY nx (h, r, s) Q ↔ (if x0 = 0 then Wp 85 73 [some (pR 1), some (pI l1), some (pI l2), none] [] LY nx (h, r, s) Q else Wp 85 37 [some (pR 1), some (pI l1), some (pI l2), none] [] LY nx (h, r, s) Q))) ∧
  (∀ (l1 : Int) (l2 : Int) (nx : Nat) (h r : PF) (s : Int → Int) (Q : PO → PY → Nat → PC → Prop), (Wp 85 37 [some (pR 1), some (pI l1), some (pI l2), none] [] LY nx (h, r, s) Q ↔ Wp 85 38 [some (pR 1), some (pI l1), some (pI l2), none] [pR 1] LY nx (h, r, s) Q)) ∧
  (∀ (l1 : Int) (l2 : Int) (nx : Nat) (h r : PF) (s : Int → Int) (Q : PO → PY → Nat → PC → Prop), 0 < (r 1 6) → (Wp 85 38 [some (pR 1), some (pI l1), some (pI l2), none] [pR 1] LY nx (h, r, s) Q ↔ Wp 85 41 [some (pR 1), some (pI l1), some (pI l2), none] [pR (r 1 6)] LY nx (h, r, s) Q)) ∧
  (∀ (l1 : Int) (l2 : Int) (x0 : Int) (nx : Nat) (h r : PF) (s : Int → Int) (Q : PO → PY → Nat → PC → Prop), (Wp 85 41 [some (pR 1), some (pI l1), some (pI l2), none] [pR x0] LY nx (h, r, s) Q ↔ Wp 85 42 [some (pR 1), some (pI l1), some (pI l2), some (pR x0)] [] LY nx (h, r, s) Q)) ∧
  (∀ (l1 : Int) (l2 : Int) (l3 : Int) (nx : Nat) (h r : PF) (s : Int → Int) (Q : PO → PY → Nat → PC → Prop), (Wp 85 42 [some (pR 1), some (pI l1), some (pI l2), some (pR l3)] [] LY nx (h, r, s) Q ↔ Wp 85 43 [some (pR 1), some (pI l1), some (pI l2), some (pR l3)] [pR 1] LY nx (h, r, s) Q)) ∧
  (∀ (l1 : Int) (l2 : Int) (l3 : Int) (nx : Nat) (h r : PF) (s : Int → Int) (Q : PO → PY → Nat → PC → Prop), (Wp 85 43 [some (pR 1), some (pI l1), some (pI l2), some (pR l3)] [pR 1] LY nx (h, r, s) Q ↔ Wp 85 44 [some (pR 1), some (pI l1), some (pI l2), some (pR l3)] [pR 1, pR 1] LY nx (h, r, s) Q)) ∧
  (∀ (l1 : Int) (l2 : Int) (l3 : Int) (nx : Nat) (h r : PF) (s : Int → Int) (Q : PO → PY → Nat → PC → Prop), 0 < (r 1 7) → (Wp 85 44 [some (pR 1), some (pI l1), some (pI l2), some (pR l3)] [pR 1, pR 1] LY nx (h, r, s) Q ↔ Wp 85 47 [some (pR 1), some (pI l1), some (pI l2), some (pR l3)] [pR (r 1 7), pR 1] LY nx (h, r, s) Q)) ∧
  (∀ (l1 : Int) (l2 : Int) (l3 : Int) (x1 : Int) (nx : Nat) (h r : PF) (s : Int → Int) (Q : PO → PY → Nat → PC → Prop), 0 < x1 → (Wp 85 47 [some (pR 1), some (pI l1), some (pI l2), some (pR l3)] [pR x1, pR 1] LY nx (h, r, s) Q ↔ Wp 85 50 [some (pR 1), some (pI l1), some (pI l2), some (pR l3)] [] LY nx (h, fup r 1 6 x1, s) Q)) ∧
  (∀ (l1 : Int) (l2 : Int) (l3 : Int) (nx : Nat) (h r : PF) (s : Int → Int) (Q : PO → PY → Nat → PC → Prop), (Wp 85 50 [some (pR 1), some (pI l1), some (pI l2), some (pR l3)] [] LY nx (h, r, s) Q ↔ Wp 85 51 [some (pR 1), some (pI l1), some (pI l2), some (pR l3)] [pR 1] LY nx (h, r, s) Q)) ∧
  (∀ (l1 : Int) (l2 : Int) (l3 : Int) (nx : Nat) (h r : PF) (s : Int → Int) (Q : PO → PY → Nat → PC → Prop), (Wp 85 51 [some (pR 1), some (pI l1), some (pI l2), some (pR l3)] [pR 1] LY nx (h, r, s) Q ↔ Wp 85 52 [some (pR 1), some (pI l1), some (pI l2), some (pR l3)] [pR l3, pR 1] LY nx (h, r, s) Q)) ∧
  (∀ (l1 : Int) (l2 : Int) (l3 : Int) (x1 : Int) (nx : Nat) (h r : PF) (s : Int → Int) (Q : PO → PY → Nat → PC → Prop), 0 < x1 → (Wp 85 52 [some (pR 1), some (pI l1), some (pI l2), some (pR l3)] [pR x1, pR 1] LY nx (h, r, s) Q ↔ Wp 85 55 [some (pR 1), some (pI l1), some (pI l2), some (pR l3)] [] LY nx (h, fup r 1 7 x1, s) Q)) ∧
  (∀ (l1 : Int) (l2 : Int) (l3 : Int) (nx : Nat) (h r : PF) (s : Int → Int) (Q : PO → PY → Nat → PC → Prop), (Wp 85 55 [some (pR 1), some (pI l1), some (pI l2), some (pR l3)] [] LY nx (h, r, s) Q ↔ Wp 85 56 [some (pR 1), some (pI l1), some (pI l2), some (pR l3)] [pR 1] LY nx (h, r, s) Q)) ∧
  (∀ (l1 : Int) (l2 : Int) (l3 : Int) (nx : Nat) (h r : PF) (s : Int → Int) (Q : PO → PY → Nat → PC → Prop), WFr r → (Wp 85 56 [some (pR 1), some (pI l1), some (pI l2), some (pR l3)] [pR 1] LY nx (h, r, s) Q ↔ Wp 85 59 [some (pR 1), some (pI l1), some (pI l2), some (pR l3)] [pR 144] LY nx (h, r, s) Q)) ∧
  (∀ (l1 : Int) (l2 : Int) (l3 : Int) (nx : Nat) (h r : PF) (s : Int → Int) (Q : PO → PY → Nat → PC → Prop), (Wp 85 59 [some (pR 1), some (pI l1), some (pI l2), some (pR l3)] [pR 144] LY nx (h, r, s) Q ↔ Wp 85 60 [some (pR 1), some (pI l1), some (pI l2), some (pR l3)] [pR 1, pR 144] LY nx (h, r, s) Q)) ∧
  (∀ (l1 : Int) (l2 : Int) (l3 : Int) (nx : Nat) (h r : PF) (s : Int → Int) (Q : PO → PY → Nat → PC → Prop), 0 < (r 1 6) → (Wp 85 60 [some (pR 1), some (pI l1), some (pI l2), some (pR l3)] [pR 1, pR 144] LY nx (h, r, s) Q ↔ Wp 85 63 [some (pR 1), some (pI l1), some (pI l2), some (pR l3)] [pR (r 1 6), pR 144] LY nx (h, r, s) Q)) ∧
  (∀ (l1 : Int) (l2 : Int) (l3 : Int) (x1 : Int) (nx : Nat) (h r : PF) (s : Int → Int) (Q : PO → PY → Nat → PC → Prop), (Wp 85 63 [some (pR 1), some (pI l1), some (pI l2), some (pR l3)] [pR x1, pR 144] LY nx (h, r, s) Q ↔ Wp 54 0 [some (pR 144), some (pR x1), none] [] LY nx (h, r, s) (Kc 85 63 [some (pR 1), some (pI l1), some (pI l2), some (pR l3)] 66 [] Q))) ∧
  (∀ (l1 : Int) (l2 : Int) (l3 : Int) (nx : Nat) (h r : PF) (s : Int → Int) (Q : PO → PY → Nat → PC → Prop), (Wp 85 66 [some (pR 1), some (pI l1), some (pI l2), some (pR l3)] [] LY nx (h, r, s) Q ↔ Wp 85 67 [some (pR 1), some (pI l1), some (pI l2), some (pR l3)] [pR 1] LY nx (h, r, s) Q)) ∧
  (∀ (l1 : Int) (l2 : Int) (l3 : Int) (nx : Nat) (h r : PF) (s : Int → Int) (Q : PO → PY → Nat → PC → Prop), WFr r → (Wp 85 67 [some (pR 1), some (pI l1), some (pI l2), some (pR l3)] [pR 1] LY nx (h, r, s) Q ↔ Wp 85 70 [some (pR 1), some (pI l1), some (pI l2), some (pR l3)] [pR 21] LY nx (h, r, s) Q)) ∧
  (∀ (l1 : Int) (l2 : Int) (l3 : Int) (nx : Nat) (h r : PF) (s : Int → Int) (Q : PO → PY → Nat → PC → Prop), (Wp 85 70 [some (pR 1), some (pI l1), some (pI l2), some (pR l3)] [pR 21] LY nx (h, r, s) Q ↔ Wp 12 0 [some (pR 21)] [] LY nx (h, r, s) (Kc 85 70 [some (pR 1), some (pI l1), some (pI l2), some (pR l3)] 73 [] Q))) ∧
  (∀ (l1 : Int) (l2 : Int) (l3 : Option PV) (nx : Nat) (h r : PF) (s : Int → Int) (Q : PO → PY → Nat → PC → Prop), (Wp 85 73 [some (pR 1), some (pI l1), some (pI l2), l3] [] LY nx (h, r, s) Q ↔ Wp 85 74 [some (pR 1), some (pI l1), some (pI l2), l3] [pR 1] LY nx (h, r, s) Q)) ∧
  (∀ (l1 : Int) (l2 : Int) (l3 : Option PV) (nx : Nat) (h r : PF) (s : Int → Int) (Q : PO → PY → Nat → PC → Prop), WFr r → (Wp 85 74 [some (pR 1), some (pI l1), some (pI l2), l3] [pR 1] LY nx (h, r, s) Q ↔ Wp 85 77 [some (pR 1), some (pI l1), some (pI l2), l3] [pR 2] LY nx (h, r, s) Q)) ∧
  (∀ (l1 : Int) (l2 : Int) (l3 : Option PV) (nx : Nat) (h r : PF) (s : Int → Int) (Q : PO → PY → Nat → PC → Prop), (Wp 85 77 [some (pR 1), some (pI l1), some (pI l2), l3] [pR 2] LY nx (h, r, s) Q ↔ Wp 85 80 [some (pR 1), some (pI l1), some (pI l2), l3] [pI (h 2 1)] LY nx (h, r, s) Q)) ∧
  (∀ (l1 : Int) (l2 : Int) (l3 : Option PV) (x0 : Int) (nx : Nat) (h r : PF) (s : Int → Int) (Q : PO → PY → Nat → PC → Prop), (Wp 85 80 [some (pR 1), some (pI l1), some (pI l2), l3] [pI x0] LY nx (h, r, s) Q ↔ Q (Sum.inl (some (pI x0))) LY nx (h, r, s))) :=
  ⟨fun l1 nx h r s Q  => o_iload_n (by decide +kernel : pcode 85 0 = some (6, 1, 0, 0, 0)) rfl,
  fun l1 x0 nx h r s Q  => o_iconst (by decide +kernel : pcode 85 1 = some (1, 0, 0, 0, 0)),
  fun l1 x0 x1 nx h r s Q  => o_aload_n (by decide +kernel : pcode 85 2 = some (10, 0, 0, 0, 0)) rfl,
  fun l1 x0 x1 nx h r s Q hw => o_getR (h := (h, r, s)) (by decide +kernel : pcode 85 3 = some (57, 442, 7, 0, 10)) (by decide) (by decide +kernel) (hw _ (List.mem_of_getElem? (i := 0) rfl)) (by decide),
  fun l1 x0 x1 nx h r s Q  => o_getI (by decide +kernel : pcode 85 6 = some (55, 162, 3, 0, 61)) (by decide) (by decide +kernel),
  fun l1 x0 x1 x2 nx h r s Q  => o_ivS (s1 := [pI x2, pI x1, pI x0]) (s2 := []) (by decide +kernel : pcode 85 9 = some (77, 123, 3, 573, 69)) rfl (Nat.le_of_ble_eq_true rfl) rfl rfl rfl,
  fun l1 nx h r s Q  => o_aload_n (by decide +kernel : pcode 85 12 = some (10, 0, 0, 0, 0)) rfl,
  fun l1 nx h r s Q hw => o_getR (h := (h, r, s)) (by decide +kernel : pcode 85 13 = some (57, 442, 7, 0, 10)) (by decide) (by decide +kernel) (hw _ (List.mem_of_getElem? (i := 0) rfl)) (by decide),
  fun l1 nx h r s Q  => o_aload_n (by decide +kernel : pcode 85 16 = some (10, 0, 0, 0, 0)) rfl,
  fun l1 nx h r s Q h9 => o_getR (h := (h, r, s)) (by decide +kernel : pcode 85 17 = some (57, 449, 7, 7, 54)) (by decide) (by decide +kernel) rfl h9,
  fun l1 x1 nx h r s Q  => o_iload_n (by decide +kernel : pcode 85 20 = some (6, 1, 0, 0, 0)) rfl,
  fun l1 x1 x2 nx h r s Q  => o_ivV (s1 := [pI x2, pR x1]) (s2 := []) (o := 2) (by decide +kernel : pcode 85 21 = some (78, 26, 3, 639, 73)) rfl (Nat.le_of_ble_eq_true rfl) (by decide) (by decide +kernel) rfl rfl rfl,
  fun l1 x0 nx h r s Q  => o_istore_n (by decide +kernel : pcode 85 24 = some (12, 2, 0, 0, 0)) rfl,
  fun l1 l2 nx h r s Q  => o_aload_n (by decide +kernel : pcode 85 25 = some (10, 0, 0, 0, 0)) rfl,
  fun l1 l2 nx h r s Q hw => o_getR (h := (h, r, s)) (by decide +kernel : pcode 85 26 = some (57, 442, 7, 0, 10)) (by decide) (by decide +kernel) (hw _ (List.mem_of_getElem? (i := 0) rfl)) (by decide),
  fun l1 l2 nx h r s Q  => o_iconst (by decide +kernel : pcode 85 29 = some (1, 0, 0, 0, 0)),
  fun l1 l2 x1 nx h r s Q  => o_putI (by decide +kernel : pcode 85 30 = some (58, 162, 3, 0, 61)) (by decide) (by decide +kernel),
  fun l1 l2 nx h r s Q  => o_iload_n (by decide +kernel : pcode 85 33 = some (6, 2, 0, 0, 0)) rfl,
  fun l1 l2 x0 nx h r s Q  => o_if_eq (by decide +kernel : pcode 85 34 = some (41, 73, 0, 0, 39)),
  fun l1 l2 nx h r s Q  => o_aload_n (by decide +kernel : pcode 85 37 = some (10, 0, 0, 0, 0)) rfl,
  fun l1 l2 nx h r s Q h9 => o_getR (h := (h, r, s)) (by decide +kernel : pcode 85 38 = some (57, 448, 7, 6, 50)) (by decide) (by decide +kernel) rfl h9,
  fun l1 l2 x0 nx h r s Q  => o_astore_n (by decide +kernel : pcode 85 41 = some (16, 3, 0, 0, 0)) rfl,
  fun l1 l2 l3 nx h r s Q  => o_aload_n (by decide +kernel : pcode 85 42 = some (10, 0, 0, 0, 0)) rfl,
  fun l1 l2 l3 nx h r s Q  => o_aload_n (by decide +kernel : pcode 85 43 = some (10, 0, 0, 0, 0)) rfl,
  fun l1 l2 l3 nx h r s Q h9 => o_getR (h := (h, r, s)) (by decide +kernel : pcode 85 44 = some (57, 449, 7, 7, 54)) (by decide) (by decide +kernel) rfl h9,
  fun l1 l2 l3 x1 nx h r s Q hx => o_putR (by decide +kernel : pcode 85 47 = some (61, 448, 7, 6, 50)) (by decide) (by decide +kernel) hx,
  fun l1 l2 l3 nx h r s Q  => o_aload_n (by decide +kernel : pcode 85 50 = some (10, 0, 0, 0, 0)) rfl,
  fun l1 l2 l3 nx h r s Q  => o_aload_n (by decide +kernel : pcode 85 51 = some (10, 3, 0, 0, 0)) rfl,
  fun l1 l2 l3 x1 nx h r s Q hx => o_putR (by decide +kernel : pcode 85 52 = some (61, 449, 7, 7, 54)) (by decide) (by decide +kernel) hx,
  fun l1 l2 l3 nx h r s Q  => o_aload_n (by decide +kernel : pcode 85 55 = some (10, 0, 0, 0, 0)) rfl,
  fun l1 l2 l3 nx h r s Q hw => o_getR (h := (h, r, s)) (by decide +kernel : pcode 85 56 = some (57, 446, 7, 4, 40)) (by decide) (by decide +kernel) (hw _ (List.mem_of_getElem? (i := 4) rfl)) (by decide),
  fun l1 l2 l3 nx h r s Q  => o_aload_n (by decide +kernel : pcode 85 59 = some (10, 0, 0, 0, 0)) rfl,
  fun l1 l2 l3 nx h r s Q h9 => o_getR (h := (h, r, s)) (by decide +kernel : pcode 85 60 = some (57, 448, 7, 6, 50)) (by decide) (by decide +kernel) rfl h9,
  fun l1 l2 l3 x1 nx h r s Q  => o_ivV (s1 := [pR x1]) (s2 := []) (o := 144) (by decide +kernel : pcode 85 63 = some (78, 54, 2, 430, 57)) rfl (Nat.le_of_ble_eq_true rfl) (by decide) (by decide +kernel) rfl rfl rfl,
  fun l1 l2 l3 nx h r s Q  => o_aload_n (by decide +kernel : pcode 85 66 = some (10, 0, 0, 0, 0)) rfl,
  fun l1 l2 l3 nx h r s Q hw => o_getR (h := (h, r, s)) (by decide +kernel : pcode 85 67 = some (57, 445, 7, 3, 33)) (by decide) (by decide +kernel) (hw _ (List.mem_of_getElem? (i := 3) rfl)) (by decide),
  fun l1 l2 l3 nx h r s Q  => o_ivV (s1 := []) (s2 := []) (o := 21) (by decide +kernel : pcode 85 70 = some (78, 12, 1, 797, 77)) rfl (Nat.le_of_ble_eq_true rfl) (by decide) (by decide +kernel) rfl rfl rfl,
  fun l1 l2 l3 nx h r s Q  => o_aload_n (by decide +kernel : pcode 85 73 = some (10, 0, 0, 0, 0)) rfl,
  fun l1 l2 l3 nx h r s Q hw => o_getR (h := (h, r, s)) (by decide +kernel : pcode 85 74 = some (57, 442, 7, 0, 10)) (by decide) (by decide +kernel) (hw _ (List.mem_of_getElem? (i := 0) rfl)) (by decide),
  fun l1 l2 l3 nx h r s Q  => o_getI (by decide +kernel : pcode 85 77 = some (55, 165, 3, 1, 80)) (by decide) (by decide +kernel),
  fun l1 l2 l3 x0 nx h r s Q  => o_iret (by decide +kernel : pcode 85 80 = some (87, 0, 0, 0, 0))⟩
set_option maxHeartbeats 4000000 in
set_option maxRecDepth 10000 in
theorem st_X7_errorPosition :
  (∀  (nx : Nat) (h r : PF) (s : Int → Int) (Q : PO → PY → Nat → PC → Prop), (Wp 86 0 [some (pR 1)] [] LY nx (h, r, s) Q ↔ Wp 86 1 [some (pR 1)] [pR 1] LY nx (h, r, s) Q)) ∧
  (∀  (nx : Nat) (h r : PF) (s : Int → Int) (Q : PO → PY → Nat → PC → Prop), WFr r → (Wp 86 1 [some (pR 1)] [pR 1] LY nx (h, r, s) Q ↔ Wp 86 4 [some (pR 1)] [pR 2] LY nx (h, r, s) Q)) ∧
  (∀  (nx : Nat) (h r : PF) (s : Int → Int) (Q : PO → PY → Nat → PC → Prop), (Wp 86 4 [some (pR 1)] [pR 2] LY nx (h, r, s) Q ↔ Wp 86 7 [some (pR 1)] [pI (h 2 2)] LY nx (h, r, s) Q)) ∧
  (∀ (x0 : Int) (nx : Nat) (h r : PF) (s : Int → Int) (Q : PO → PY → Nat → PC → Prop), (Wp 86 7 [some (pR 1)] [pI x0] LY nx (h, r, s) Q ↔ Q (Sum.inl (some (pI x0))) LY nx (h, r, s))) :=
  ⟨fun  nx h r s Q  => o_aload_n (by decide +kernel : pcode 86 0 = some (10, 0, 0, 0, 0)) rfl,
  fun  nx h r s Q hw => o_getR (h := (h, r, s)) (by decide +kernel : pcode 86 1 = some (57, 442, 7, 0, 10)) (by decide) (by decide +kernel) (hw _ (List.mem_of_getElem? (i := 0) rfl)) (by decide),
  fun  nx h r s Q  => o_getI (by decide +kernel : pcode 86 4 = some (55, 167, 3, 2, 83)) (by decide) (by decide +kernel),
  fun x0 nx h r s Q  => o_iret (by decide +kernel : pcode 86 7 = some (87, 0, 0, 0, 0))⟩
set_option maxHeartbeats 4000000 in
set_option maxRecDepth 10000 in
theorem st_X7_size :
  (∀ (l1 : Int) (nx : Nat) (h r : PF) (s : Int → Int) (Q : PO → PY → Nat → PC → Prop), (Wp 87 0 [some (pR 1), some (pI l1)] [] LY nx (h, r, s) Q ↔ Wp 87 1 [some (pR 1), some (pI l1)] [pI l1] LY nx (h, r, s) Q)) ∧
  (∀ (l1 : Int) (nx : Nat) (h r : PF) (s : Int → Int) (Q : PO → PY → Nat → PC → Prop), (Wp 87 1 [some (pR 1), some (pI l1)] [pI 0] LY nx (h, r, s) Q ↔ Wp 87 52 [some (pR 1), some (pI l1)] [] LY nx (h, r, s) Q)) ∧
  (∀ (l1 : Int) (nx : Nat) (h r : PF) (s : Int → Int) (Q : PO → PY → Nat → PC → Prop), (Wp 87 1 [some (pR 1), some (pI l1)] [pI 1] LY nx (h, r, s) Q ↔ Wp 87 60 [some (pR 1), some (pI l1)] [] LY nx (h, r, s) Q)) ∧
  (∀ (l1 : Int) (nx : Nat) (h r : PF) (s : Int → Int) (Q : PO → PY → Nat → PC → Prop), (Wp 87 1 [some (pR 1), some (pI l1)] [pI 2] LY nx (h, r, s) Q ↔ Wp 87 68 [some (pR 1), some (pI l1)] [] LY nx (h, r, s) Q)) ∧
  (∀ (l1 : Int) (nx : Nat) (h r : PF) (s : Int → Int) (Q : PO → PY → Nat → PC → Prop), (Wp 87 1 [some (pR 1), some (pI l1)] [pI 3] LY nx (h, r, s) Q ↔ Wp 87 76 [some (pR 1), some (pI l1)] [] LY nx (h, r, s) Q)) ∧
  (∀ (l1 : Int) (nx : Nat) (h r : PF) (s : Int → Int) (Q : PO → PY → Nat → PC → Prop), (Wp 87 1 [some (pR 1), some (pI l1)] [pI 4] LY nx (h, r, s) Q ↔ Wp 87 84 [some (pR 1), some (pI l1)] [] LY nx (h, r, s) Q)) ∧
  (∀ (l1 : Int) (nx : Nat) (h r : PF) (s : Int → Int) (Q : PO → PY → Nat → PC → Prop), (Wp 87 1 [some (pR 1), some (pI l1)] [pI 5] LY nx (h, r, s) Q ↔ Wp 87 92 [some (pR 1), some (pI l1)] [] LY nx (h, r, s) Q)) ∧
  (∀ (l1 : Int) (nx : Nat) (h r : PF) (s : Int → Int) (Q : PO → PY → Nat → PC → Prop), (Wp 87 1 [some (pR 1), some (pI l1)] [pI 6] LY nx (h, r, s) Q ↔ Wp 87 114 [some (pR 1), some (pI l1)] [] LY nx (h, r, s) Q)) ∧
  (∀ (l1 : Int) (nx : Nat) (h r : PF) (s : Int → Int) (Q : PO → PY → Nat → PC → Prop), (Wp 87 1 [some (pR 1), some (pI l1)] [pI 7] LY nx (h, r, s) Q ↔ Wp 87 122 [some (pR 1), some (pI l1)] [] LY nx (h, r, s) Q)) ∧
  (∀ (l1 : Int) (nx : Nat) (h r : PF) (s : Int → Int) (Q : PO → PY → Nat → PC → Prop), (Wp 87 1 [some (pR 1), some (pI l1)] [pI 8] LY nx (h, r, s) Q ↔ Wp 87 130 [some (pR 1), some (pI l1)] [] LY nx (h, r, s) Q)) ∧
  (∀ (l1 : Int) (x0 : Int) (nx : Nat) (h r : PF) (s : Int → Int) (Q : PO → PY → Nat → PC → Prop), x0 < 0 ∨ 8 < x0 → (Wp 87 1 [some (pR 1), some (pI l1)] [pI x0] LY nx (h, r, s) Q ↔ Wp 87 138 [some (pR 1), some (pI l1)] [] LY nx (h, r, s) Q)) ∧
  (∀ (l1 : Int) (nx : Nat) (h r : PF) (s : Int → Int) (Q : PO → PY → Nat → PC → Prop), (Wp 87 52 [some (pR 1), some (pI l1)] [] LY nx (h, r, s) Q ↔ Wp 87 53 [some (pR 1), some (pI l1)] [pR 1] LY nx (h, r, s) Q)) ∧
  (∀ (l1 : Int) (nx : Nat) (h r : PF) (s : Int → Int) (Q : PO → PY → Nat → PC → Prop), 0 < (r 1 6) → (Wp 87 53 [some (pR 1), some (pI l1)] [pR 1] LY nx (h, r, s) Q ↔ Wp 87 56 [some (pR 1), some (pI l1)] [pR (r 1 6)] LY nx (h, r, s) Q)) ∧
  (∀ (l1 : Int) (x0 : Int) (nx : Nat) (h r : PF) (s : Int → Int) (Q : PO → PY → Nat → PC → Prop), 0 < x0 → kd LY x0 = (0, 2) → (Wp 87 56 [some (pR 1), some (pI l1)] [pR x0] LY nx (h, r, s) Q ↔ Wp 87 59 [some (pR 1), some (pI l1)] [pI (h x0 1)] LY nx (h, r, s) Q)) ∧
  (∀ (l1 : Int) (x0 : Int) (nx : Nat) (h r : PF) (s : Int → Int) (Q : PO → PY → Nat → PC → Prop), (Wp 87 59 [some (pR 1), some (pI l1)] [pI x0] LY nx (h, r, s) Q ↔ Q (Sum.inl (some (pI x0))) LY nx (h, r, s))) ∧
  (∀ (l1 : Int) (nx : Nat) (h r : PF) (s : Int → Int) (Q : PO → PY → Nat → PC → Prop), (Wp 87 60 [some (pR 1), some (pI l1)] [] LY nx (h, r, s) Q ↔ Wp 87 61 [some (pR 1), some (pI l1)] [pR 1] LY nx (h, r, s) Q)) ∧
  (∀ (l1 : Int) (nx : Nat) (h r : PF) (s : Int → Int) (Q : PO → PY → Nat → PC → Prop), 0 < (r 1 6) → (Wp 87 61 [some (pR 1), some (pI l1)] [pR 1] LY nx (h, r, s) Q ↔ Wp 87 64 [some (pR 1), some (pI l1)] [pR (r 1 6)] LY nx (h, r, s) Q)) ∧
  (∀ (l1 : Int) (x0 : Int) (nx : Nat) (h r : PF) (s : Int → Int) (Q : PO → PY → Nat → PC → Prop), 0 < x0 → kd LY x0 = (0, 2) → (Wp 87 64 [some (pR 1), some (pI l1)] [pR x0] LY nx (h, r, s) Q ↔ Wp 87 67 [some (pR 1), some (pI l1)] [pI (h x0 0)] LY nx (h, r, s) Q)) ∧
  (∀ (l1 : Int) (x0 : Int) (nx : Nat) (h r : PF) (s : Int → Int) (Q : PO → PY → Nat → PC → Prop), (Wp 87 67 [some (pR 1), some (pI l1)] [pI x0] LY nx (h, r, s) Q ↔ Q (Sum.inl (some (pI x0))) LY nx (h, r, s))) ∧
  (∀ (l1 : Int) (nx : Nat) (h r : PF) (s : Int → Int) (Q : PO → PY → Nat → PC → Prop), (Wp 87 68 [some (pR 1), some (pI l1)] [] LY nx (h, r, s) Q ↔ Wp 87 69 [some (pR 1), some (pI l1)] [pR 1] LY nx (h, r, s) Q)) ∧
  (∀ (l1 : Int) (nx : Nat) (h r : PF) (s : Int → Int) (Q : PO → PY → Nat → PC → Prop), WFr r → (Wp 87 69 [some (pR 1), some (pI l1)] [pR 1] LY nx (h, r, s) Q ↔ Wp 87 72 [some (pR 1), some (pI l1)] [pR 144] LY nx (h, r, s) Q)) ∧
  (∀ (l1 : Int) (nx : Nat) (h r : PF) (s : Int → Int) (Q : PO → PY → Nat → PC → Prop), (Wp 87 72 [some (pR 1), some (pI l1)] [pR 144] LY nx (h, r, s) Q ↔ Wp 87 75 [some (pR 1), some (pI l1)] [pI (h 144 8)] LY nx (h, r, s) Q)) ∧
  (∀ (l1 : Int) (x0 : Int) (nx : Nat) (h r : PF) (s : Int → Int) (Q : PO → PY → Nat → PC → Prop), (Wp 87 75 [some (pR 1), some (pI l1)] [pI x0] LY nx (h, r, s) Q ↔ Q (Sum.inl (some (pI x0))) LY nx (h, r, s))) ∧
  (∀ (l1 : Int) (nx : Nat) (h r : PF) (s : Int → Int) (Q : PO → PY → Nat → PC → Prop), (Wp 87 76 [some (pR 1), some (pI l1)] [] LY nx (h, r, s) Q ↔ Wp 87 77 [some (pR 1), some (pI l1)] [pR 1] LY nx (h, r, s) Q)) ∧
  (∀ (l1 : Int) (nx : Nat) (h r : PF) (s : Int → Int) (Q : PO → PY → Nat → PC → Prop), WFr r → (Wp 87 77 [some (pR 1), some (pI l1)] [pR 1] LY nx (h, r, s) Q ↔ Wp 87 80 [some (pR 1), some (pI l1)] [pR 144] LY nx (h, r, s) Q)) ∧
  (∀ (l1 : Int) (nx : Nat) (h r : PF) (s : Int → Int) (Q : PO → PY → Nat → PC → Prop), (Wp 87 80 [some (pR 1), some (pI l1)] [pR 144] LY nx (h, r, s) Q ↔ Wp 87 83 [some (pR 1), some (pI l1)] [pI (h 144 9)] LY nx (h, r, s) Q)) ∧
  (∀ (l1 : Int) (x0 : Int) (nx : Nat) (h r : PF) (s : Int → Int) (Q : PO → PY → Nat → PC → Prop), (Wp 87 83 [some (pR 1), some (pI l1)] [pI x0] LY nx (h, r, s) Q ↔ Q (Sum.inl (some (pI x0))) LY nx (h, r, s))) ∧
  (∀ (l1 : Int) (nx : Nat) (h r : PF) (s : Int → Int) (Q : PO → PY → Nat → PC → Prop), (Wp 87 84 [some (pR 1), some (pI l1)] [] LY nx (h, r, s) Q ↔ Wp 87 85 [some (pR 1), some (pI l1)] [pR 1] LY nx (h, r, s) Q)) ∧
  (∀ (l1 : Int) (nx : Nat) (h r : PF) (s : Int → Int) (Q : PO → PY → Nat → PC → Prop), WFr r → (Wp 87 85 [some (pR 1), some (pI l1)] [pR 1] LY nx (h, r, s) Q ↔ Wp 87 88 [some (pR 1), some (pI l1)] [pR 144] LY nx (h, r, s) Q)) ∧
  (∀ (l1 : Int) (nx : Nat) (h r : PF) (s : Int → Int) (Q : PO → PY → Nat → PC → Prop), (Wp 87 88 [some (pR 1), some (pI l1)] [pR 144] LY nx (h, r, s) Q ↔ Wp 87 91 [some (pR 1), some (pI l1)] [pI (h 144 10)] LY nx (h, r, s) Q)) ∧
  (∀ (l1 : Int) (x0 : Int) (nx : Nat) (h r : PF) (s : Int → Int) (Q : PO → PY → Nat → PC → Prop), (Wp 87 91 [some (pR 1), some (pI l1)] [pI x0] LY nx (h, r, s) Q ↔ Q (Sum.inl (some (pI x0))) LY nx (h, r, s))) ∧
  (∀ (l1 : Int) (nx : Nat) (h r : PF) (s : Int → Int) (Q : PO → PY → Nat → PC → Prop), (Wp 87 92 [some (pR 1), some (pI l1)] [] LY nx (h, r, s) Q ↔ Wp 87 93 [some (pR 1), some (pI l1)] [pR 1] LY nx (h, r, s) Q)) ∧
  (∀ (l1 : Int) (nx : Nat) (h r : PF) (s : Int → Int) (Q : PO → PY → Nat → PC → Prop), 0 < (r 1 6) → (Wp 87 93 [some (pR 1), some (pI l1)] [pR 1] LY nx (h, r, s) Q ↔ Wp 87 96 [some (pR 1), some (pI l1)] [pR (r 1 6)] LY nx (h, r, s) Q)) ∧
  (∀ (l1 : Int) (x0 : Int) (nx : Nat) (h r : PF) (s : Int → Int) (Q : PO → PY → Nat → PC → Prop), 0 < x0 → kd LY x0 = (0, 2) → (Wp 87 96 [some (pR 1), some (pI l1)] [pR x0] LY nx (h, r, s) Q ↔ Wp 87 99 [some (pR 1), some (pI l1)] [pI (h x0 1)] LY nx (h, r, s) Q)) ∧
  (∀ (l1 : Int) (x0 : Int) (nx : Nat) (h r : PF) (s : Int → Int) (Q : PO → PY → Nat → PC → Prop), (Wp 87 99 [some (pR 1), some (pI l1)] [pI x0] LY nx (h, r, s) Q ↔ (if x0 ≠ 0 then Wp 87 106 [some (pR 1), some (pI l1)] [] LY nx (h, r, s) Q else Wp 87 102 [some (pR 1), some (pI l1)] [] LY nx (h, r, s) Q))) ∧
  (∀ (l1 : Int) (nx : Nat) (h r : PF) (s : Int → Int) (Q : PO → PY → Nat → PC → Prop), (Wp 87 102 [some (pR 1), some (pI l1)] [] LY nx (h, r, s) Q ↔ Wp 87 103 [some (pR 1), some (pI l1)] [pI (-1)] LY nx (h, r, s) Q)) ∧
  (∀ (l1 : Int) (x0 : Int) (nx : Nat) (h r : PF) (s : Int → Int) (Q : PO → PY → Nat → PC → Prop), (Wp 87 103 [some (pR 1), some (pI l1)] [pI x0] LY nx (h, r, s) Q ↔ Wp 87 113 [some (pR 1), some (pI l1)] [pI x0] LY nx (h, r, s) Q)) ∧
  (∀ (l1 : Int) (nx : Nat) (h r : PF) (s : Int → Int) (Q : PO → PY → Nat → PC → Prop), (Wp 87 106 [some (pR 1), some (pI l1)] [] LY nx (h, r, s) Q ↔ Wp 87 107 [some (pR 1), some (pI l1)] [pR 1] LY nx (h, r, s) Q)) ∧
  (∀ (l1 : Int) (nx : Nat) (h r : PF) (s : Int → Int) (Q : PO → PY → Nat → PC → Prop), WFr r → (Wp 87 107 [some (pR 1), some (pI l1)] [pR 1] LY nx (h, r, s) Q ↔ Wp 87 110 [some (pR 1), some (pI l1)] [pR 144] LY nx (h, r, s) Q)) ∧
  (∀ (l1 : Int) (nx : Nat) (h r : PF) (s : Int → Int) (Q : PO → PY → Nat → PC → Prop), (Wp 87 110 [some (pR 1), some (pI l1)] [pR 144] LY nx (h, r, s) Q ↔ Wp 87 113 [some (pR 1), some (pI l1)] [pI (h 144 11)] LY nx (h, r, s) Q)) ∧
  (∀ (l1 : Int) (x0 : Int) (nx : Nat) (h r : PF) (s : Int → Int) (Q : PO → PY → Nat → PC → Prop), (Wp 87 113 [some (pR 1), some (pI l1)] [pI x0] LY nx (h, r, s) Q ↔ Q (Sum.inl (some (pI x0))) LY nx (h, r, s))) ∧
  (∀ (l1 : Int) (nx : Nat) (h r : PF) (s : Int → Int) (Q : PO → PY → Nat → PC → Prop), (Wp 87 114 [some (pR 1), some (pI l1)] [] LY nx (h, r, s) Q ↔ Wp 87 115 [some (pR 1), some (pI l1)] [pR 1] LY nx (h, r, s) Q)) ∧
  (∀ (l1 : Int) (nx : Nat) (h r : PF) (s : Int → Int) (Q : PO → PY → Nat → PC → Prop), 0 < (r 1 6) → (Wp 87 115 [some (pR 1), some (pI l1)] [pR 1] LY nx (h, r, s) Q ↔ Wp 87 118 [some (pR 1), some (pI l1)] [pR (r 1 6)] LY nx (h, r, s) Q)) ∧
  (∀ (l1 : Int) (x0 : Int) (nx : Nat) (h r : PF) (s : Int → Int) (Q : PO → PY → Nat → PC → Prop), 0 < x0 → kd LY x0 = (0, 2) → (Wp 87 118 [some (pR 1), some (pI l1)] [pR x0] LY nx (h, r, s) Q ↔ Wp 87 121 [some (pR 1), some (pI l1)] [pI (h x0 3)] LY nx (h, r, s) Q)) ∧
  (∀ (l1 : Int) (x0 : Int) (nx : Nat) (h r : PF) (s : Int → Int) (Q : PO → PY → Nat → PC → Prop), (Wp 87 121 [some (pR 1), some (pI l1)] [pI x0] LY nx (h, r, s) Q ↔ Q (Sum.inl (some (pI x0))) LY nx (h, r, s))) ∧
  (∀ (l1 : Int) (nx : Nat) (h r : PF) (s : Int → Int) (Q : PO → PY → Nat → PC → Prop), (Wp 87 122 [some (pR 1), some (pI l1)] [] LY nx (h, r, s) Q ↔ Wp 87 123 [some (pR 1), some (pI l1)] [pR 1] LY nx (h, r, s) Q)) ∧
  (∀ (l1 : Int) (nx : Nat) (h r : PF) (s : Int → Int) (Q : PO → PY → Nat → PC → Prop), 0 < (r 1 6) → (Wp 87 123 [some (pR 1), some (pI l1)] [pR 1] LY nx (h, r, s) Q ↔ Wp 87 126 [some (pR 1), some (pI l1)] [pR (r 1 6)] LY nx (h, r, s) Q)) ∧
  (∀ (l1 : Int) (x0 : Int) (nx : Nat) (h r : PF) (s : Int → Int) (Q : PO → PY → Nat → PC → Prop), 0 < x0 → kd LY x0 = (0, 2) → (Wp 87 126 [some (pR 1), some (pI l1)] [pR x0] LY nx (h, r, s) Q ↔ Wp 87 129 [some (pR 1), some (pI l1)] [pI (h x0 4)] LY nx (h, r, s) Q)) ∧
  (∀ (l1 : Int) (x0 : Int) (nx : Nat) (h r : PF) (s : Int → Int) (Q : PO → PY → Nat → PC → Prop), (Wp 87 129 [some (pR 1), some (pI l1)] [pI x0] LY nx (h, r, s) Q ↔ Q (Sum.inl (some (pI x0))) LY nx (h, r, s))) ∧
  (∀ (l1 : Int) (nx : Nat) (h r : PF) (s : Int → Int) (Q : PO → PY → Nat → PC → Prop), (Wp 87 130 [some (pR 1), some (pI l1)] [] LY nx (h, r, s) Q ↔ Wp 87 131 [some (pR 1), some (pI l1)] [pR 1] LY nx (h, r, s) Q)) ∧
  (∀ (l1 : Int) (nx : Nat) (h r : PF) (s : Int → Int) (Q : PO → PY → Nat → PC → Prop), WFr r → (Wp 87 131 [some (pR 1), some (pI l1)] [pR 1] LY nx (h, r, s) Q ↔ Wp 87 134 [some (pR 1), some (pI l1)] [pR 21] LY nx (h, r, s) Q)) ∧
  (∀ (l1 : Int) (nx : Nat) (h r : PF) (s : Int → Int) (Q : PO → PY → Nat → PC → Prop), (Wp 87 134 [some (pR 1), some (pI l1)] [pR 21] LY nx (h, r, s) Q ↔ Wp 87 137 [some (pR 1), some (pI l1)] [pI (h 21 0)] LY nx (h, r, s) Q)) ∧
  (∀ (l1 : Int) (x0 : Int) (nx : Nat) (h r : PF) (s : Int → Int) (Q : PO → PY → Nat → PC → Prop), (Wp 87 137 [some (pR 1), some (pI l1)] [pI x0] LY nx (h, r, s) Q ↔ Q (Sum.inl (some (pI x0))) LY nx (h, r, s))) ∧
  (∀ (l1 : Int) (nx : Nat) (h r : PF) (s : Int → Int) (Q : PO → PY → Nat → PC → Prop), (Wp 87 138 [some (pR 1), some (pI l1)] [] LY nx (h, r, s) Q ↔ Q (Sum.inr 0) LY (nx + 1) (h, r, s))) :=
  ⟨fun l1 nx h r s Q  => o_iload_n (by decide +kernel : pcode 87 0 = some (6, 1, 0, 0, 0)) rfl,
  fun l1 nx h r s Q => o_tsw (by decide +kernel : pcode 87 1 = some (54, 0, 51, 0, 0)) rfl (by decide) rfl,
  fun l1 nx h r s Q => o_tsw (by decide +kernel : pcode 87 1 = some (54, 0, 51, 0, 0)) rfl (by decide) rfl,
  fun l1 nx h r s Q => o_tsw (by decide +kernel : pcode 87 1 = some (54, 0, 51, 0, 0)) rfl (by decide) rfl,
  fun l1 nx h r s Q => o_tsw (by decide +kernel : pcode 87 1 = some (54, 0, 51, 0, 0)) rfl (by decide) rfl,
  fun l1 nx h r s Q => o_tsw (by decide +kernel : pcode 87 1 = some (54, 0, 51, 0, 0)) rfl (by decide) rfl,
  fun l1 nx h r s Q => o_tsw (by decide +kernel : pcode 87 1 = some (54, 0, 51, 0, 0)) rfl (by decide) rfl,
  fun l1 nx h r s Q => o_tsw (by decide +kernel : pcode 87 1 = some (54, 0, 51, 0, 0)) rfl (by decide) rfl,
  fun l1 nx h r s Q => o_tsw (by decide +kernel : pcode 87 1 = some (54, 0, 51, 0, 0)) rfl (by decide) rfl,
  fun l1 nx h r s Q => o_tsw (by decide +kernel : pcode 87 1 = some (54, 0, 51, 0, 0)) rfl (by decide) rfl,
  fun l1 x0 nx h r s Q h0 => o_tswd (by decide +kernel : pcode 87 1 = some (54, 0, 51, 0, 0)) rfl h0,
  fun l1 nx h r s Q  => o_aload_n (by decide +kernel : pcode 87 52 = some (10, 0, 0, 0, 0)) rfl,
  fun l1 nx h r s Q h9 => o_getR (h := (h, r, s)) (by decide +kernel : pcode 87 53 = some (57, 448, 7, 6, 50)) (by decide) (by decide +kernel) rfl h9,
  fun l1 x0 nx h r s Q h0 hk => o_getI (by decide +kernel : pcode 87 56 = some (55, 379, 2, 1, 86)) h0 hk,
  fun l1 x0 nx h r s Q  => o_iret (by decide +kernel : pcode 87 59 = some (87, 0, 0, 0, 0)),
  fun l1 nx h r s Q  => o_aload_n (by decide +kernel : pcode 87 60 = some (10, 0, 0, 0, 0)) rfl,
  fun l1 nx h r s Q h9 => o_getR (h := (h, r, s)) (by decide +kernel : pcode 87 61 = some (57, 448, 7, 6, 50)) (by decide) (by decide +kernel) rfl h9,
  fun l1 x0 nx h r s Q h0 hk => o_getI (by decide +kernel : pcode 87 64 = some (55, 374, 2, 0, 89)) h0 hk,
  fun l1 x0 nx h r s Q  => o_iret (by decide +kernel : pcode 87 67 = some (87, 0, 0, 0, 0)),
  fun l1 nx h r s Q  => o_aload_n (by decide +kernel : pcode 87 68 = some (10, 0, 0, 0, 0)) rfl,
  fun l1 nx h r s Q hw => o_getR (h := (h, r, s)) (by decide +kernel : pcode 87 69 = some (57, 446, 7, 4, 40)) (by decide) (by decide +kernel) (hw _ (List.mem_of_getElem? (i := 4) rfl)) (by decide),
  fun l1 nx h r s Q  => o_getI (by decide +kernel : pcode 87 72 = some (55, 296, 5, 8, 92)) (by decide) (by decide +kernel),
  fun l1 x0 nx h r s Q  => o_iret (by decide +kernel : pcode 87 75 = some (87, 0, 0, 0, 0)),
  fun l1 nx h r s Q  => o_aload_n (by decide +kernel : pcode 87 76 = some (10, 0, 0, 0, 0)) rfl,
  fun l1 nx h r s Q hw => o_getR (h := (h, r, s)) (by decide +kernel : pcode 87 77 = some (57, 446, 7, 4, 40)) (by decide) (by decide +kernel) (hw _ (List.mem_of_getElem? (i := 4) rfl)) (by decide),
  fun l1 nx h r s Q  => o_getI (by decide +kernel : pcode 87 80 = some (55, 299, 5, 9, 95)) (by decide) (by decide +kernel),
  fun l1 x0 nx h r s Q  => o_iret (by decide +kernel : pcode 87 83 = some (87, 0, 0, 0, 0)),
  fun l1 nx h r s Q  => o_aload_n (by decide +kernel : pcode 87 84 = some (10, 0, 0, 0, 0)) rfl,
  fun l1 nx h r s Q hw => o_getR (h := (h, r, s)) (by decide +kernel : pcode 87 85 = some (57, 446, 7, 4, 40)) (by decide) (by decide +kernel) (hw _ (List.mem_of_getElem? (i := 4) rfl)) (by decide),
  fun l1 nx h r s Q  => o_getI (by decide +kernel : pcode 87 88 = some (55, 301, 5, 10, 98)) (by decide) (by decide +kernel),
  fun l1 x0 nx h r s Q  => o_iret (by decide +kernel : pcode 87 91 = some (87, 0, 0, 0, 0)),
  fun l1 nx h r s Q  => o_aload_n (by decide +kernel : pcode 87 92 = some (10, 0, 0, 0, 0)) rfl,
  fun l1 nx h r s Q h9 => o_getR (h := (h, r, s)) (by decide +kernel : pcode 87 93 = some (57, 448, 7, 6, 50)) (by decide) (by decide +kernel) rfl h9,
  fun l1 x0 nx h r s Q h0 hk => o_getI (by decide +kernel : pcode 87 96 = some (55, 379, 2, 1, 86)) h0 hk,
  fun l1 x0 nx h r s Q  => o_if_ne (by decide +kernel : pcode 87 99 = some (42, 106, 0, 0, 7)),
  fun l1 nx h r s Q  => o_iconst (by decide +kernel : pcode 87 102 = some (1, 0, 0, 0, -1)),
  fun l1 x0 nx h r s Q  => o_goto (by decide +kernel : pcode 87 103 = some (53, 113, 0, 0, 10)),
  fun l1 nx h r s Q  => o_aload_n (by decide +kernel : pcode 87 106 = some (10, 0, 0, 0, 0)) rfl,
  fun l1 nx h r s Q hw => o_getR (h := (h, r, s)) (by decide +kernel : pcode 87 107 = some (57, 446, 7, 4, 40)) (by decide) (by decide +kernel) (hw _ (List.mem_of_getElem? (i := 4) rfl)) (by decide),
  fun l1 nx h r s Q  => o_getI (by decide +kernel : pcode 87 110 = some (55, 303, 5, 11, 101)) (by decide) (by decide +kernel),
  fun l1 x0 nx h r s Q  => o_iret (by decide +kernel : pcode 87 113 = some (87, 0, 0, 0, 0)),
  fun l1 nx h r s Q  => o_aload_n (by decide +kernel : pcode 87 114 = some (10, 0, 0, 0, 0)) rfl,
  fun l1 nx h r s Q h9 => o_getR (h := (h, r, s)) (by decide +kernel : pcode 87 115 = some (57, 448, 7, 6, 50)) (by decide) (by decide +kernel) rfl h9,
  fun l1 x0 nx h r s Q h0 hk => o_getI (by decide +kernel : pcode 87 118 = some (55, 384, 2, 3, 104)) h0 hk,
  fun l1 x0 nx h r s Q  => o_iret (by decide +kernel : pcode 87 121 = some (87, 0, 0, 0, 0)),
  fun l1 nx h r s Q  => o_aload_n (by decide +kernel : pcode 87 122 = some (10, 0, 0, 0, 0)) rfl,
  fun l1 nx h r s Q h9 => o_getR (h := (h, r, s)) (by decide +kernel : pcode 87 123 = some (57, 448, 7, 6, 50)) (by decide) (by decide +kernel) rfl h9,
  fun l1 x0 nx h r s Q h0 hk => o_getI (by decide +kernel : pcode 87 126 = some (55, 388, 2, 4, 107)) h0 hk,
  fun l1 x0 nx h r s Q  => o_iret (by decide +kernel : pcode 87 129 = some (87, 0, 0, 0, 0)),
  fun l1 nx h r s Q  => o_aload_n (by decide +kernel : pcode 87 130 = some (10, 0, 0, 0, 0)) rfl,
  fun l1 nx h r s Q hw => o_getR (h := (h, r, s)) (by decide +kernel : pcode 87 131 = some (57, 445, 7, 3, 33)) (by decide) (by decide +kernel) (hw _ (List.mem_of_getElem? (i := 3) rfl)) (by decide),
  fun l1 nx h r s Q  => o_getI (by decide +kernel : pcode 87 134 = some (55, 339, 1, 0, 110)) (by decide) (by decide +kernel),
  fun l1 x0 nx h r s Q  => o_iret (by decide +kernel : pcode 87 137 = some (87, 0, 0, 0, 0)),
  fun l1 nx h r s Q  => o_throw (by decide +kernel : pcode 87 138 = some (83, 0, 113, 115, 0)) (Nat.le_of_ble_eq_true rfl) (by decide)⟩
set_option maxHeartbeats 4000000 in
set_option maxRecDepth 10000 in
theorem st_X7_machine :
  (∀ (l1 : Int) (l2 : Int) (nx : Nat) (h r : PF) (s : Int → Int) (Q : PO → PY → Nat → PC → Prop), (Wp 88 0 [some (pR 1), some (pI l1), some (pI l2)] [] LY nx (h, r, s) Q ↔ Wp 88 1 [some (pR 1), some (pI l1), some (pI l2)] [pR 1] LY nx (h, r, s) Q)) ∧
  (∀ (l1 : Int) (l2 : Int) (nx : Nat) (h r : PF) (s : Int → Int) (Q : PO → PY → Nat → PC → Prop), (Wp 88 1 [some (pR 1), some (pI l1), some (pI l2)] [pR 1] LY nx (h, r, s) Q ↔ Wp 88 2 [some (pR 1), some (pI l1), some (pI l2)] [pI l1, pR 1] LY nx (h, r, s) Q)) ∧
  (∀ (l1 : Int) (l2 : Int) (x1 : Int) (nx : Nat) (h r : PF) (s : Int → Int) (Q : PO → PY → Nat → PC → Prop), (Wp 88 2 [some (pR 1), some (pI l1), some (pI l2)] [pI x1, pR 1] LY nx (h, r, s) Q ↔ Wp 118 0 [some (pR 1), some (pI x1)] [] LY nx (h, r, s) (Kc 88 2 [some (pR 1), some (pI l1), some (pI l2)] 5 [] Q))) ∧
  (∀ (l1 : Int) (l2 : Int) (nx : Nat) (h r : PF) (s : Int → Int) (Q : PO → PY → Nat → PC → Prop), (Wp 88 5 [some (pR 1), some (pI l1), some (pI l2)] [] LY nx (h, r, s) Q ↔ Wp 88 6 [some (pR 1), some (pI l1), some (pI l2)] [pI l2] LY nx (h, r, s) Q)) ∧
  (∀ (l1 : Int) (l2 : Int) (nx : Nat) (h r : PF) (s : Int → Int) (Q : PO → PY → Nat → PC → Prop), (Wp 88 6 [some (pR 1), some (pI l1), some (pI l2)] [pI 0] LY nx (h, r, s) Q ↔ Wp 88 48 [some (pR 1), some (pI l1), some (pI l2)] [] LY nx (h, r, s) Q)) ∧
  (∀ (l1 : Int) (l2 : Int) (nx : Nat) (h r : PF) (s : Int → Int) (Q : PO → PY → Nat → PC → Prop), (Wp 88 6 [some (pR 1), some (pI l1), some (pI l2)] [pI 1] LY nx (h, r, s) Q ↔ Wp 88 58 [some (pR 1), some (pI l1), some (pI l2)] [] LY nx (h, r, s) Q)) ∧
  (∀ (l1 : Int) (l2 : Int) (nx : Nat) (h r : PF) (s : Int → Int) (Q : PO → PY → Nat → PC → Prop), (Wp 88 6 [some (pR 1), some (pI l1), some (pI l2)] [pI 2] LY nx (h, r, s) Q ↔ Wp 88 68 [some (pR 1), some (pI l1), some (pI l2)] [] LY nx (h, r, s) Q)) ∧
  (∀ (l1 : Int) (l2 : Int) (nx : Nat) (h r : PF) (s : Int → Int) (Q : PO → PY → Nat → PC → Prop), (Wp 88 6 [some (pR 1), some (pI l1), some (pI l2)] [pI 3] LY nx (h, r, s) Q ↔ Wp 88 78 [some (pR 1), some (pI l1), some (pI l2)] [] LY nx (h, r, s) Q)) ∧
  (∀ (l1 : Int) (l2 : Int) (nx : Nat) (h r : PF) (s : Int → Int) (Q : PO → PY → Nat → PC → Prop), (Wp 88 6 [some (pR 1), some (pI l1), some (pI l2)] [pI 4] LY nx (h, r, s) Q ↔ Wp 88 88 [some (pR 1), some (pI l1), some (pI l2)] [] LY nx (h, r, s) Q)) ∧
  (∀ (l1 : Int) (l2 : Int) (nx : Nat) (h r : PF) (s : Int → Int) (Q : PO → PY → Nat → PC → Prop), (Wp 88 6 [some (pR 1), some (pI l1), some (pI l2)] [pI 5] LY nx (h, r, s) Q ↔ Wp 88 105 [some (pR 1), some (pI l1), some (pI l2)] [] LY nx (h, r, s) Q)) ∧
  (∀ (l1 : Int) (l2 : Int) (nx : Nat) (h r : PF) (s : Int → Int) (Q : PO → PY → Nat → PC → Prop), (Wp 88 6 [some (pR 1), some (pI l1), some (pI l2)] [pI 6] LY nx (h, r, s) Q ↔ Wp 88 115 [some (pR 1), some (pI l1), some (pI l2)] [] LY nx (h, r, s) Q)) ∧
  (∀ (l1 : Int) (l2 : Int) (x0 : Int) (nx : Nat) (h r : PF) (s : Int → Int) (Q : PO → PY → Nat → PC → Prop), x0 < 0 ∨ 6 < x0 → (Wp 88 6 [some (pR 1), some (pI l1), some (pI l2)] [pI x0] LY nx (h, r, s) Q ↔ Wp 88 125 [some (pR 1), some (pI l1), some (pI l2)] [] LY nx (h, r, s) Q)) ∧
  (∀ (l1 : Int) (l2 : Int) (nx : Nat) (h r : PF) (s : Int → Int) (Q : PO → PY → Nat → PC → Prop), (Wp 88 48 [some (pR 1), some (pI l1), some (pI l2)] [] LY nx (h, r, s) Q ↔ Wp 88 49 [some (pR 1), some (pI l1), some (pI l2)] [pR 1] LY nx (h, r, s) Q)) ∧
  (∀ (l1 : Int) (l2 : Int) (nx : Nat) (h r : PF) (s : Int → Int) (Q : PO → PY → Nat → PC → Prop), WFr r → (Wp 88 49 [some (pR 1), some (pI l1), some (pI l2)] [pR 1] LY nx (h, r, s) Q ↔ Wp 88 52 [some (pR 1), some (pI l1), some (pI l2)] [pR 144] LY nx (h, r, s) Q)) ∧
  (∀ (l1 : Int) (l2 : Int) (nx : Nat) (h r : PF) (s : Int → Int) (Q : PO → PY → Nat → PC → Prop), WFr r → (Wp 88 52 [some (pR 1), some (pI l1), some (pI l2)] [pR 144] LY nx (h, r, s) Q ↔ Wp 88 55 [some (pR 1), some (pI l1), some (pI l2)] [pR 145] LY nx (h, r, s) Q)) ∧
  (∀ (l1 : Int) (l2 : Int) (nx : Nat) (h r : PF) (s : Int → Int) (Q : PO → PY → Nat → PC → Prop), (Wp 88 55 [some (pR 1), some (pI l1), some (pI l2)] [pR 145] LY nx (h, r, s) Q ↔ Wp 88 56 [some (pR 1), some (pI l1), some (pI l2)] [pI l1, pR 145] LY nx (h, r, s) Q)) ∧
  (∀ (l1 : Int) (l2 : Int) (x1 : Int) (nx : Nat) (h r : PF) (s : Int → Int) (Q : PO → PY → Nat → PC → Prop), 0 ≤ x1 → x1 < 4 → (Wp 88 56 [some (pR 1), some (pI l1), some (pI l2)] [pI x1, pR 145] LY nx (h, r, s) Q ↔ Wp 88 57 [some (pR 1), some (pI l1), some (pI l2)] [pI (h 145 x1)] LY nx (h, r, s) Q)) ∧
  (∀ (l1 : Int) (l2 : Int) (x0 : Int) (nx : Nat) (h r : PF) (s : Int → Int) (Q : PO → PY → Nat → PC → Prop), (Wp 88 57 [some (pR 1), some (pI l1), some (pI l2)] [pI x0] LY nx (h, r, s) Q ↔ Q (Sum.inl (some (pI x0))) LY nx (h, r, s))) ∧
  (∀ (l1 : Int) (l2 : Int) (nx : Nat) (h r : PF) (s : Int → Int) (Q : PO → PY → Nat → PC → Prop), (Wp 88 58 [some (pR 1), some (pI l1), some (pI l2)] [] LY nx (h, r, s) Q ↔ Wp 88 59 [some (pR 1), some (pI l1), some (pI l2)] [pR 1] LY nx (h, r, s) Q)) ∧
  (∀ (l1 : Int) (l2 : Int) (nx : Nat) (h r : PF) (s : Int → Int) (Q : PO → PY → Nat → PC → Prop), WFr r → (Wp 88 59 [some (pR 1), some (pI l1), some (pI l2)] [pR 1] LY nx (h, r, s) Q ↔ Wp 88 62 [some (pR 1), some (pI l1), some (pI l2)] [pR 144] LY nx (h, r, s) Q)) ∧
  (∀ (l1 : Int) (l2 : Int) (nx : Nat) (h r : PF) (s : Int → Int) (Q : PO → PY → Nat → PC → Prop), WFr r → (Wp 88 62 [some (pR 1), some (pI l1), some (pI l2)] [pR 144] LY nx (h, r, s) Q ↔ Wp 88 65 [some (pR 1), some (pI l1), some (pI l2)] [pR 146] LY nx (h, r, s) Q)) ∧
  (∀ (l1 : Int) (l2 : Int) (nx : Nat) (h r : PF) (s : Int → Int) (Q : PO → PY → Nat → PC → Prop), (Wp 88 65 [some (pR 1), some (pI l1), some (pI l2)] [pR 146] LY nx (h, r, s) Q ↔ Wp 88 66 [some (pR 1), some (pI l1), some (pI l2)] [pI l1, pR 146] LY nx (h, r, s) Q)) ∧
  (∀ (l1 : Int) (l2 : Int) (x1 : Int) (nx : Nat) (h r : PF) (s : Int → Int) (Q : PO → PY → Nat → PC → Prop), 0 ≤ x1 → x1 < 4 → (Wp 88 66 [some (pR 1), some (pI l1), some (pI l2)] [pI x1, pR 146] LY nx (h, r, s) Q ↔ Wp 88 67 [some (pR 1), some (pI l1), some (pI l2)] [pI (h 146 x1)] LY nx (h, r, s) Q)) ∧
  (∀ (l1 : Int) (l2 : Int) (x0 : Int) (nx : Nat) (h r : PF) (s : Int → Int) (Q : PO → PY → Nat → PC → Prop), (Wp 88 67 [some (pR 1), some (pI l1), some (pI l2)] [pI x0] LY nx (h, r, s) Q ↔ Q (Sum.inl (some (pI x0))) LY nx (h, r, s))) ∧
  (∀ (l1 : Int) (l2 : Int) (nx : Nat) (h r : PF) (s : Int → Int) (Q : PO → PY → Nat → PC → Prop), (Wp 88 68 [some (pR 1), some (pI l1), some (pI l2)] [] LY nx (h, r, s) Q ↔ Wp 88 69 [some (pR 1), some (pI l1), some (pI l2)] [pR 1] LY nx (h, r, s) Q)) ∧
  (∀ (l1 : Int) (l2 : Int) (nx : Nat) (h r : PF) (s : Int → Int) (Q : PO → PY → Nat → PC → Prop), WFr r → (Wp 88 69 [some (pR 1), some (pI l1), some (pI l2)] [pR 1] LY nx (h, r, s) Q ↔ Wp 88 72 [some (pR 1), some (pI l1), some (pI l2)] [pR 144] LY nx (h, r, s) Q)) ∧
  (∀ (l1 : Int) (l2 : Int) (nx : Nat) (h r : PF) (s : Int → Int) (Q : PO → PY → Nat → PC → Prop), WFr r → (Wp 88 72 [some (pR 1), some (pI l1), some (pI l2)] [pR 144] LY nx (h, r, s) Q ↔ Wp 88 75 [some (pR 1), some (pI l1), some (pI l2)] [pR 147] LY nx (h, r, s) Q)) ∧
  (∀ (l1 : Int) (l2 : Int) (nx : Nat) (h r : PF) (s : Int → Int) (Q : PO → PY → Nat → PC → Prop), (Wp 88 75 [some (pR 1), some (pI l1), some (pI l2)] [pR 147] LY nx (h, r, s) Q ↔ Wp 88 76 [some (pR 1), some (pI l1), some (pI l2)] [pI l1, pR 147] LY nx (h, r, s) Q)) ∧
  (∀ (l1 : Int) (l2 : Int) (x1 : Int) (nx : Nat) (h r : PF) (s : Int → Int) (Q : PO → PY → Nat → PC → Prop), 0 ≤ x1 → x1 < 4 → (Wp 88 76 [some (pR 1), some (pI l1), some (pI l2)] [pI x1, pR 147] LY nx (h, r, s) Q ↔ Wp 88 77 [some (pR 1), some (pI l1), some (pI l2)] [pI (h 147 x1)] LY nx (h, r, s) Q)) ∧
  (∀ (l1 : Int) (l2 : Int) (x0 : Int) (nx : Nat) (h r : PF) (s : Int → Int) (Q : PO → PY → Nat → PC → Prop), (Wp 88 77 [some (pR 1), some (pI l1), some (pI l2)] [pI x0] LY nx (h, r, s) Q ↔ Q (Sum.inl (some (pI x0))) LY nx (h, r, s))) ∧
  (∀ (l1 : Int) (l2 : Int) (nx : Nat) (h r : PF) (s : Int → Int) (Q : PO → PY → Nat → PC → Prop), (Wp 88 78 [some (pR 1), some (pI l1), some (pI l2)] [] LY nx (h, r, s) Q ↔ Wp 88 79 [some (pR 1), some (pI l1), some (pI l2)] [pR 1] LY nx (h, r, s) Q)) ∧
  (∀ (l1 : Int) (l2 : Int) (nx : Nat) (h r : PF) (s : Int → Int) (Q : PO → PY → Nat → PC → Prop), 0 < (r 1 6) → (Wp 88 79 [some (pR 1), some (pI l1), some (pI l2)] [pR 1] LY nx (h, r, s) Q ↔ Wp 88 82 [some (pR 1), some (pI l1), some (pI l2)] [pR (r 1 6)] LY nx (h, r, s) Q)) ∧
  (∀ (l1 : Int) (l2 : Int) (x0 : Int) (nx : Nat) (h r : PF) (s : Int → Int) (Q : PO → PY → Nat → PC → Prop), 0 < x0 → kd LY x0 = (0, 2) → r x0 7 = x0 + 3 → 0 < x0 + 3 → (Wp 88 82 [some (pR 1), some (pI l1), some (pI l2)] [pR x0] LY nx (h, r, s) Q ↔ Wp 88 85 [some (pR 1), some (pI l1), some (pI l2)] [pR (x0 + 3)] LY nx (h, r, s) Q)) ∧
  (∀ (l1 : Int) (l2 : Int) (x0 : Int) (nx : Nat) (h r : PF) (s : Int → Int) (Q : PO → PY → Nat → PC → Prop), (Wp 88 85 [some (pR 1), some (pI l1), some (pI l2)] [pR x0] LY nx (h, r, s) Q ↔ Wp 88 86 [some (pR 1), some (pI l1), some (pI l2)] [pI l1, pR x0] LY nx (h, r, s) Q)) ∧
  (∀ (l1 : Int) (l2 : Int) (x0 : Int) (x1 : Int) (nx : Nat) (h r : PF) (s : Int → Int) (Q : PO → PY → Nat → PC → Prop), 0 < x0 → kd LY x0 = (1, 4) → 0 ≤ x1 → x1 < 4 → (Wp 88 86 [some (pR 1), some (pI l1), some (pI l2)] [pI x1, pR x0] LY nx (h, r, s) Q ↔ Wp 88 87 [some (pR 1), some (pI l1), some (pI l2)] [pI (h x0 x1)] LY nx (h, r, s) Q)) ∧
  (∀ (l1 : Int) (l2 : Int) (x0 : Int) (nx : Nat) (h r : PF) (s : Int → Int) (Q : PO → PY → Nat → PC → Prop), (Wp 88 87 [some (pR 1), some (pI l1), some (pI l2)] [pI x0] LY nx (h, r, s) Q ↔ Q (Sum.inl (some (pI x0))) LY nx (h, r, s))) ∧
  (∀ (l1 : Int) (l2 : Int) (nx : Nat) (h r : PF) (s : Int → Int) (Q : PO → PY → Nat → PC → Prop), (Wp 88 88 [some (pR 1), some (pI l1), some (pI l2)] [] LY nx (h, r, s) Q ↔ Wp 88 89 [some (pR 1), some (pI l1), some (pI l2)] [pR 1] LY nx (h, r, s) Q)) ∧
  (∀ (l1 : Int) (l2 : Int) (nx : Nat) (h r : PF) (s : Int → Int) (Q : PO → PY → Nat → PC → Prop), 0 < (r 1 6) → (Wp 88 89 [some (pR 1), some (pI l1), some (pI l2)] [pR 1] LY nx (h, r, s) Q ↔ Wp 88 92 [some (pR 1), some (pI l1), some (pI l2)] [pR (r 1 6)] LY nx (h, r, s) Q)) ∧
  (∀ (l1 : Int) (l2 : Int) (x0 : Int) (nx : Nat) (h r : PF) (s : Int → Int) (Q : PO → PY → Nat → PC → Prop), (Wp 88 92 [some (pR 1), some (pI l1), some (pI l2)] [pR x0] LY nx (h, r, s) Q ↔ Wp 88 93 [some (pR 1), some (pI l1), some (pI l2)] [pI l1, pR x0] LY nx (h, r, s) Q)) ∧
  (∀ (l1 : Int) (l2 : Int) (x0 : Int) (x1 : Int) (nx : Nat) (h r : PF) (s : Int → Int) (Q : PO → PY → Nat → PC → Prop), 0 < x0 → kd LY x0 = (0, 2) → (Wp 88 93 [some (pR 1), some (pI l1), some (pI l2)] [pI x1, pR x0] LY nx (h, r, s) Q ↔ Wp 23 0 [some (pR x0), some (pI x1)] [] LY nx (h, r, s) (Kc 88 93 [some (pR 1), some (pI l1), some (pI l2)] 96 [] Q))) ∧
  (∀ (l1 : Int) (l2 : Int) (x0 : Int) (nx : Nat) (h r : PF) (s : Int → Int) (Q : PO → PY → Nat → PC → Prop), (Wp 88 96 [some (pR 1), some (pI l1), some (pI l2)] [pI x0] LY nx (h, r, s) Q ↔ (if x0 = 0 then Wp 88 103 [some (pR 1), some (pI l1), some (pI l2)] [] LY nx (h, r, s) Q else Wp 88 99 [some (pR 1), some (pI l1), some (pI l2)] [] LY nx (h, r, s) Q))) ∧
  (∀ (l1 : Int) (l2 : Int) (nx : Nat) (h r : PF) (s : Int → Int) (Q : PO → PY → Nat → PC → Prop), (Wp 88 99 [some (pR 1), some (pI l1), some (pI l2)] [] LY nx (h, r, s) Q ↔ Wp 88 100 [some (pR 1), some (pI l1), some (pI l2)] [pI 1] LY nx (h, r, s) Q)) ∧
  (∀ (l1 : Int) (l2 : Int) (x0 : Int) (nx : Nat) (h r : PF) (s : Int → Int) (Q : PO → PY → Nat → PC → Prop), (Wp 88 100 [some (pR 1), some (pI l1), some (pI l2)] [pI x0] LY nx (h, r, s) Q ↔ Wp 88 104 [some (pR 1), some (pI l1), some (pI l2)] [pI x0] LY nx (h, r, s) Q)) ∧
  (∀ (l1 : Int) (l2 : Int) (nx : Nat) (h r : PF) (s : Int → Int) (Q : PO → PY → Nat → PC → Prop), (Wp 88 103 [some (pR 1), some (pI l1), some (pI l2)] [] LY nx (h, r, s) Q ↔ Wp 88 104 [some (pR 1), some (pI l1), some (pI l2)] [pI 0] LY nx (h, r, s) Q)) ∧
  (∀ (l1 : Int) (l2 : Int) (x0 : Int) (nx : Nat) (h r : PF) (s : Int → Int) (Q : PO → PY → Nat → PC → Prop), (Wp 88 104 [some (pR 1), some (pI l1), some (pI l2)] [pI x0] LY nx (h, r, s) Q ↔ Q (Sum.inl (some (pI x0))) LY nx (h, r, s))) ∧
  (∀ (l1 : Int) (l2 : Int) (nx : Nat) (h r : PF) (s : Int → Int) (Q : PO → PY → Nat → PC → Prop), (Wp 88 105 [some (pR 1), some (pI l1), some (pI l2)] [] LY nx (h, r, s) Q ↔ Wp 88 106 [some (pR 1), some (pI l1), some (pI l2)] [pR 1] LY nx (h, r, s) Q)) ∧
  (∀ (l1 : Int) (l2 : Int) (nx : Nat) (h r : PF) (s : Int → Int) (Q : PO → PY → Nat → PC → Prop), WFr r → (Wp 88 106 [some (pR 1), some (pI l1), some (pI l2)] [pR 1] LY nx (h, r, s) Q ↔ Wp 88 109 [some (pR 1), some (pI l1), some (pI l2)] [pR 144] LY nx (h, r, s) Q)) ∧
  (∀ (l1 : Int) (l2 : Int) (nx : Nat) (h r : PF) (s : Int → Int) (Q : PO → PY → Nat → PC → Prop), WFr r → (Wp 88 109 [some (pR 1), some (pI l1), some (pI l2)] [pR 144] LY nx (h, r, s) Q ↔ Wp 88 112 [some (pR 1), some (pI l1), some (pI l2)] [pR 148] LY nx (h, r, s) Q)) ∧
  (∀ (l1 : Int) (l2 : Int) (nx : Nat) (h r : PF) (s : Int → Int) (Q : PO → PY → Nat → PC → Prop), (Wp 88 112 [some (pR 1), some (pI l1), some (pI l2)] [pR 148] LY nx (h, r, s) Q ↔ Wp 88 113 [some (pR 1), some (pI l1), some (pI l2)] [pI l1, pR 148] LY nx (h, r, s) Q)) ∧
  (∀ (l1 : Int) (l2 : Int) (x1 : Int) (nx : Nat) (h r : PF) (s : Int → Int) (Q : PO → PY → Nat → PC → Prop), 0 ≤ x1 → x1 < 4 → (Wp 88 113 [some (pR 1), some (pI l1), some (pI l2)] [pI x1, pR 148] LY nx (h, r, s) Q ↔ Wp 88 114 [some (pR 1), some (pI l1), some (pI l2)] [pI (h 148 x1)] LY nx (h, r, s) Q)) ∧
  (∀ (l1 : Int) (l2 : Int) (x0 : Int) (nx : Nat) (h r : PF) (s : Int → Int) (Q : PO → PY → Nat → PC → Prop), (Wp 88 114 [some (pR 1), some (pI l1), some (pI l2)] [pI x0] LY nx (h, r, s) Q ↔ Q (Sum.inl (some (pI x0))) LY nx (h, r, s))) ∧
  (∀ (l1 : Int) (l2 : Int) (nx : Nat) (h r : PF) (s : Int → Int) (Q : PO → PY → Nat → PC → Prop), (Wp 88 115 [some (pR 1), some (pI l1), some (pI l2)] [] LY nx (h, r, s) Q ↔ Wp 88 116 [some (pR 1), some (pI l1), some (pI l2)] [pR 1] LY nx (h, r, s) Q)) ∧
  (∀ (l1 : Int) (l2 : Int) (nx : Nat) (h r : PF) (s : Int → Int) (Q : PO → PY → Nat → PC → Prop), WFr r → (Wp 88 116 [some (pR 1), some (pI l1), some (pI l2)] [pR 1] LY nx (h, r, s) Q ↔ Wp 88 119 [some (pR 1), some (pI l1), some (pI l2)] [pR 144] LY nx (h, r, s) Q)) ∧
  (∀ (l1 : Int) (l2 : Int) (nx : Nat) (h r : PF) (s : Int → Int) (Q : PO → PY → Nat → PC → Prop), WFr r → (Wp 88 119 [some (pR 1), some (pI l1), some (pI l2)] [pR 144] LY nx (h, r, s) Q ↔ Wp 88 122 [some (pR 1), some (pI l1), some (pI l2)] [pR 149] LY nx (h, r, s) Q)) ∧
  (∀ (l1 : Int) (l2 : Int) (nx : Nat) (h r : PF) (s : Int → Int) (Q : PO → PY → Nat → PC → Prop), (Wp 88 122 [some (pR 1), some (pI l1), some (pI l2)] [pR 149] LY nx (h, r, s) Q ↔ Wp 88 123 [some (pR 1), some (pI l1), some (pI l2)] [pI l1, pR 149] LY nx (h, r, s) Q)) ∧
  (∀ (l1 : Int) (l2 : Int) (x1 : Int) (nx : Nat) (h r : PF) (s : Int → Int) (Q : PO → PY → Nat → PC → Prop), 0 ≤ x1 → x1 < 4 → (Wp 88 123 [some (pR 1), some (pI l1), some (pI l2)] [pI x1, pR 149] LY nx (h, r, s) Q ↔ Wp 88 124 [some (pR 1), some (pI l1), some (pI l2)] [pI (h 149 x1)] LY nx (h, r, s) Q)) ∧
  (∀ (l1 : Int) (l2 : Int) (x0 : Int) (nx : Nat) (h r : PF) (s : Int → Int) (Q : PO → PY → Nat → PC → Prop), (Wp 88 124 [some (pR 1), some (pI l1), some (pI l2)] [pI x0] LY nx (h, r, s) Q ↔ Q (Sum.inl (some (pI x0))) LY nx (h, r, s))) ∧
  (∀ (l1 : Int) (l2 : Int) (nx : Nat) (h r : PF) (s : Int → Int) (Q : PO → PY → Nat → PC → Prop), (Wp 88 125 [some (pR 1), some (pI l1), some (pI l2)] [] LY nx (h, r, s) Q ↔ Q (Sum.inr 0) LY (nx + 1) (h, r, s))) :=
  ⟨fun l1 l2 nx h r s Q  => o_aload_n (by decide +kernel : pcode 88 0 = some (10, 0, 0, 0, 0)) rfl,
  fun l1 l2 nx h r s Q  => o_iload_n (by decide +kernel : pcode 88 1 = some (6, 1, 0, 0, 0)) rfl,
  fun l1 l2 x1 nx h r s Q  => o_ivV (s1 := [pI x1]) (s2 := []) (o := 1) (by decide +kernel : pcode 88 2 = some (78, 118, 2, 816, 116)) rfl (Nat.le_of_ble_eq_true rfl) (by decide) (by decide +kernel) rfl rfl rfl,
  fun l1 l2 nx h r s Q  => o_iload_n (by decide +kernel : pcode 88 5 = some (6, 2, 0, 0, 0)) rfl,
  fun l1 l2 nx h r s Q => o_tsw (by decide +kernel : pcode 88 6 = some (54, 1, 42, 0, 0)) rfl (by decide) rfl,
  fun l1 l2 nx h r s Q => o_tsw (by decide +kernel : pcode 88 6 = some (54, 1, 42, 0, 0)) rfl (by decide) rfl,
  fun l1 l2 nx h r s Q => o_tsw (by decide +kernel : pcode 88 6 = some (54, 1, 42, 0, 0)) rfl (by decide) rfl,
  fun l1 l2 nx h r s Q => o_tsw (by decide +kernel : pcode 88 6 = some (54, 1, 42, 0, 0)) rfl (by decide) rfl,
  fun l1 l2 nx h r s Q => o_tsw (by decide +kernel : pcode 88 6 = some (54, 1, 42, 0, 0)) rfl (by decide) rfl,
  fun l1 l2 nx h r s Q => o_tsw (by decide +kernel : pcode 88 6 = some (54, 1, 42, 0, 0)) rfl (by decide) rfl,
  fun l1 l2 nx h r s Q => o_tsw (by decide +kernel : pcode 88 6 = some (54, 1, 42, 0, 0)) rfl (by decide) rfl,
  fun l1 l2 x0 nx h r s Q h0 => o_tswd (by decide +kernel : pcode 88 6 = some (54, 1, 42, 0, 0)) rfl h0,
  fun l1 l2 nx h r s Q  => o_aload_n (by decide +kernel : pcode 88 48 = some (10, 0, 0, 0, 0)) rfl,
  fun l1 l2 nx h r s Q hw => o_getR (h := (h, r, s)) (by decide +kernel : pcode 88 49 = some (57, 446, 7, 4, 40)) (by decide) (by decide +kernel) (hw _ (List.mem_of_getElem? (i := 4) rfl)) (by decide),
  fun l1 l2 nx h r s Q hw => o_getR (h := (h, r, s)) (by decide +kernel : pcode 88 52 = some (57, 277, 5, 0, 119)) (by decide) (by decide +kernel) (hw _ (List.mem_of_getElem? (i := 142) rfl)) (by decide),
  fun l1 l2 nx h r s Q  => o_iload_n (by decide +kernel : pcode 88 55 = some (6, 1, 0, 0, 0)) rfl,
  fun l1 l2 x1 nx h r s Q hi hn => o_iald (h := (h, r, s)) (n := 4) (by decide +kernel : pcode 88 56 = some (63, 0, 0, 0, 0)) (by decide) (by decide +kernel) hi hn,
  fun l1 l2 x0 nx h r s Q  => o_iret (by decide +kernel : pcode 88 57 = some (87, 0, 0, 0, 0)),
  fun l1 l2 nx h r s Q  => o_aload_n (by decide +kernel : pcode 88 58 = some (10, 0, 0, 0, 0)) rfl,
  fun l1 l2 nx h r s Q hw => o_getR (h := (h, r, s)) (by decide +kernel : pcode 88 59 = some (57, 446, 7, 4, 40)) (by decide) (by decide +kernel) (hw _ (List.mem_of_getElem? (i := 4) rfl)) (by decide),
  fun l1 l2 nx h r s Q hw => o_getR (h := (h, r, s)) (by decide +kernel : pcode 88 62 = some (57, 280, 5, 1, 123)) (by decide) (by decide +kernel) (hw _ (List.mem_of_getElem? (i := 143) rfl)) (by decide),
  fun l1 l2 nx h r s Q  => o_iload_n (by decide +kernel : pcode 88 65 = some (6, 1, 0, 0, 0)) rfl,
  fun l1 l2 x1 nx h r s Q hi hn => o_iald (h := (h, r, s)) (n := 4) (by decide +kernel : pcode 88 66 = some (63, 0, 0, 0, 0)) (by decide) (by decide +kernel) hi hn,
  fun l1 l2 x0 nx h r s Q  => o_iret (by decide +kernel : pcode 88 67 = some (87, 0, 0, 0, 0)),
  fun l1 l2 nx h r s Q  => o_aload_n (by decide +kernel : pcode 88 68 = some (10, 0, 0, 0, 0)) rfl,
  fun l1 l2 nx h r s Q hw => o_getR (h := (h, r, s)) (by decide +kernel : pcode 88 69 = some (57, 446, 7, 4, 40)) (by decide) (by decide +kernel) (hw _ (List.mem_of_getElem? (i := 4) rfl)) (by decide),
  fun l1 l2 nx h r s Q hw => o_getR (h := (h, r, s)) (by decide +kernel : pcode 88 72 = some (57, 282, 5, 2, 126)) (by decide) (by decide +kernel) (hw _ (List.mem_of_getElem? (i := 144) rfl)) (by decide),
  fun l1 l2 nx h r s Q  => o_iload_n (by decide +kernel : pcode 88 75 = some (6, 1, 0, 0, 0)) rfl,
  fun l1 l2 x1 nx h r s Q hi hn => o_iald (h := (h, r, s)) (n := 4) (by decide +kernel : pcode 88 76 = some (63, 0, 0, 0, 0)) (by decide) (by decide +kernel) hi hn,
  fun l1 l2 x0 nx h r s Q  => o_iret (by decide +kernel : pcode 88 77 = some (87, 0, 0, 0, 0)),
  fun l1 l2 nx h r s Q  => o_aload_n (by decide +kernel : pcode 88 78 = some (10, 0, 0, 0, 0)) rfl,
  fun l1 l2 nx h r s Q h9 => o_getR (h := (h, r, s)) (by decide +kernel : pcode 88 79 = some (57, 448, 7, 6, 50)) (by decide) (by decide +kernel) rfl h9,
  fun l1 l2 x0 nx h r s Q h0 hk h9 h8 => o_getR (h := (h, r, s)) (by decide +kernel : pcode 88 82 = some (57, 400, 2, 7, 129)) h0 hk h9 h8,
  fun l1 l2 x0 nx h r s Q  => o_iload_n (by decide +kernel : pcode 88 85 = some (6, 1, 0, 0, 0)) rfl,
  fun l1 l2 x0 x1 nx h r s Q h0 hk hi hn => o_iald (h := (h, r, s)) (n := 4) (by decide +kernel : pcode 88 86 = some (63, 0, 0, 0, 0)) h0 hk hi hn,
  fun l1 l2 x0 nx h r s Q  => o_iret (by decide +kernel : pcode 88 87 = some (87, 0, 0, 0, 0)),
  fun l1 l2 nx h r s Q  => o_aload_n (by decide +kernel : pcode 88 88 = some (10, 0, 0, 0, 0)) rfl,
  fun l1 l2 nx h r s Q h9 => o_getR (h := (h, r, s)) (by decide +kernel : pcode 88 89 = some (57, 448, 7, 6, 50)) (by decide) (by decide +kernel) rfl h9,
  fun l1 l2 x0 nx h r s Q  => o_iload_n (by decide +kernel : pcode 88 92 = some (6, 1, 0, 0, 0)) rfl,
  fun l1 l2 x0 x1 nx h r s Q h0 hk => o_ivV (s1 := [pI x1]) (s2 := []) (o := x0) (by decide +kernel : pcode 88 93 = some (78, 23, 2, 835, 132)) rfl (Nat.le_of_ble_eq_true rfl) h0 hk rfl rfl rfl,
  fun l1 l2 x0 nx h r s Q  => o_if_eq (by decide +kernel : pcode 88 96 = some (41, 103, 0, 0, 7)),
  fun l1 l2 nx h r s Q  => o_iconst (by decide +kernel : pcode 88 99 = some (1, 0, 0, 0, 1)),
  fun l1 l2 x0 nx h r s Q  => o_goto (by decide +kernel : pcode 88 100 = some (53, 104, 0, 0, 4)),
  fun l1 l2 nx h r s Q  => o_iconst (by decide +kernel : pcode 88 103 = some (1, 0, 0, 0, 0)),
  fun l1 l2 x0 nx h r s Q  => o_iret (by decide +kernel : pcode 88 104 = some (87, 0, 0, 0, 0)),
  fun l1 l2 nx h r s Q  => o_aload_n (by decide +kernel : pcode 88 105 = some (10, 0, 0, 0, 0)) rfl,
  fun l1 l2 nx h r s Q hw => o_getR (h := (h, r, s)) (by decide +kernel : pcode 88 106 = some (57, 446, 7, 4, 40)) (by decide) (by decide +kernel) (hw _ (List.mem_of_getElem? (i := 4) rfl)) (by decide),
  fun l1 l2 nx h r s Q hw => o_getR (h := (h, r, s)) (by decide +kernel : pcode 88 109 = some (57, 285, 5, 3, 136)) (by decide) (by decide +kernel) (hw _ (List.mem_of_getElem? (i := 145) rfl)) (by decide),
  fun l1 l2 nx h r s Q  => o_iload_n (by decide +kernel : pcode 88 112 = some (6, 1, 0, 0, 0)) rfl,
  fun l1 l2 x1 nx h r s Q hi hn => o_iald (h := (h, r, s)) (n := 4) (by decide +kernel : pcode 88 113 = some (63, 0, 0, 0, 0)) (by decide) (by decide +kernel) hi hn,
  fun l1 l2 x0 nx h r s Q  => o_iret (by decide +kernel : pcode 88 114 = some (87, 0, 0, 0, 0)),
  fun l1 l2 nx h r s Q  => o_aload_n (by decide +kernel : pcode 88 115 = some (10, 0, 0, 0, 0)) rfl,
  fun l1 l2 nx h r s Q hw => o_getR (h := (h, r, s)) (by decide +kernel : pcode 88 116 = some (57, 446, 7, 4, 40)) (by decide) (by decide +kernel) (hw _ (List.mem_of_getElem? (i := 4) rfl)) (by decide),
  fun l1 l2 nx h r s Q hw => o_getR (h := (h, r, s)) (by decide +kernel : pcode 88 119 = some (57, 287, 5, 4, 139)) (by decide) (by decide +kernel) (hw _ (List.mem_of_getElem? (i := 146) rfl)) (by decide),
  fun l1 l2 nx h r s Q  => o_iload_n (by decide +kernel : pcode 88 122 = some (6, 1, 0, 0, 0)) rfl,
  fun l1 l2 x1 nx h r s Q hi hn => o_iald (h := (h, r, s)) (n := 4) (by decide +kernel : pcode 88 123 = some (63, 0, 0, 0, 0)) (by decide) (by decide +kernel) hi hn,
  fun l1 l2 x0 nx h r s Q  => o_iret (by decide +kernel : pcode 88 124 = some (87, 0, 0, 0, 0)),
  fun l1 l2 nx h r s Q  => o_throw (by decide +kernel : pcode 88 125 = some (83, 0, 113, 115, 0)) (Nat.le_of_ble_eq_true rfl) (by decide)⟩
set_option maxHeartbeats 4000000 in
set_option maxRecDepth 10000 in
theorem st_X7_strength :
  (∀ (l1 : Int) (l2 : Int) (nx : Nat) (h r : PF) (s : Int → Int) (Q : PO → PY → Nat → PC → Prop), (Wp 89 0 [some (pR 1), some (pI l1), some (pI l2)] [] LY nx (h, r, s) Q ↔ Wp 89 1 [some (pR 1), some (pI l1), some (pI l2)] [pR 1] LY nx (h, r, s) Q)) ∧
  (∀ (l1 : Int) (l2 : Int) (nx : Nat) (h r : PF) (s : Int → Int) (Q : PO → PY → Nat → PC → Prop), (Wp 89 1 [some (pR 1), some (pI l1), some (pI l2)] [pR 1] LY nx (h, r, s) Q ↔ Wp 89 2 [some (pR 1), some (pI l1), some (pI l2)] [pI l1, pR 1] LY nx (h, r, s) Q)) ∧
  (∀ (l1 : Int) (l2 : Int) (x1 : Int) (nx : Nat) (h r : PF) (s : Int → Int) (Q : PO → PY → Nat → PC → Prop), (Wp 89 2 [some (pR 1), some (pI l1), some (pI l2)] [pI x1, pR 1] LY nx (h, r, s) Q ↔ Wp 89 3 [some (pR 1), some (pI l1), some (pI l2)] [pI l2, pI x1, pR 1] LY nx (h, r, s) Q)) ∧
  (∀ (l1 : Int) (l2 : Int) (x1 : Int) (x2 : Int) (nx : Nat) (h r : PF) (s : Int → Int) (Q : PO → PY → Nat → PC → Prop), (Wp 89 3 [some (pR 1), some (pI l1), some (pI l2)] [pI x2, pI x1, pR 1] LY nx (h, r, s) Q ↔ Wp 119 0 [some (pR 1), some (pI x1), some (pI x2)] [] LY nx (h, r, s) (Kc 89 3 [some (pR 1), some (pI l1), some (pI l2)] 6 [] Q))) ∧
  (∀ (l1 : Int) (l2 : Int) (nx : Nat) (h r : PF) (s : Int → Int) (Q : PO → PY → Nat → PC → Prop), (Wp 89 6 [some (pR 1), some (pI l1), some (pI l2)] [] LY nx (h, r, s) Q ↔ Wp 89 7 [some (pR 1), some (pI l1), some (pI l2)] [pR 1] LY nx (h, r, s) Q)) ∧
  (∀ (l1 : Int) (l2 : Int) (nx : Nat) (h r : PF) (s : Int → Int) (Q : PO → PY → Nat → PC → Prop), WFr r → (Wp 89 7 [some (pR 1), some (pI l1), some (pI l2)] [pR 1] LY nx (h, r, s) Q ↔ Wp 89 10 [some (pR 1), some (pI l1), some (pI l2)] [pR 144] LY nx (h, r, s) Q)) ∧
  (∀ (l1 : Int) (l2 : Int) (nx : Nat) (h r : PF) (s : Int → Int) (Q : PO → PY → Nat → PC → Prop), WFr r → (Wp 89 10 [some (pR 1), some (pI l1), some (pI l2)] [pR 144] LY nx (h, r, s) Q ↔ Wp 89 13 [some (pR 1), some (pI l1), some (pI l2)] [pR 150] LY nx (h, r, s) Q)) ∧
  (∀ (l1 : Int) (l2 : Int) (nx : Nat) (h r : PF) (s : Int → Int) (Q : PO → PY → Nat → PC → Prop), (Wp 89 13 [some (pR 1), some (pI l1), some (pI l2)] [pR 150] LY nx (h, r, s) Q ↔ Wp 89 14 [some (pR 1), some (pI l1), some (pI l2)] [pI l1, pR 150] LY nx (h, r, s) Q)) ∧
  (∀ (l1 : Int) (l2 : Int) (x1 : Int) (nx : Nat) (h r : PF) (s : Int → Int) (Q : PO → PY → Nat → PC → Prop), (Wp 89 14 [some (pR 1), some (pI l1), some (pI l2)] [pI x1, pR 150] LY nx (h, r, s) Q ↔ Wp 89 16 [some (pR 1), some (pI l1), some (pI l2)] [pI 6, pI x1, pR 150] LY nx (h, r, s) Q)) ∧
  (∀ (l1 : Int) (l2 : Int) (x1 : Int) (x2 : Int) (nx : Nat) (h r : PF) (s : Int → Int) (Q : PO → PY → Nat → PC → Prop), (Wp 89 16 [some (pR 1), some (pI l1), some (pI l2)] [pI x2, pI x1, pR 150] LY nx (h, r, s) Q ↔ Wp 89 17 [some (pR 1), some (pI l1), some (pI l2)] [pI (w32 (x1 * x2)), pR 150] LY nx (h, r, s) Q)) ∧
  (∀ (l1 : Int) (l2 : Int) (x1 : Int) (nx : Nat) (h r : PF) (s : Int → Int) (Q : PO → PY → Nat → PC → Prop), (Wp 89 17 [some (pR 1), some (pI l1), some (pI l2)] [pI x1, pR 150] LY nx (h, r, s) Q ↔ Wp 89 18 [some (pR 1), some (pI l1), some (pI l2)] [pI l2, pI x1, pR 150] LY nx (h, r, s) Q)) ∧
  (∀ (l1 : Int) (l2 : Int) (x1 : Int) (x2 : Int) (nx : Nat) (h r : PF) (s : Int → Int) (Q : PO → PY → Nat → PC → Prop), (Wp 89 18 [some (pR 1), some (pI l1), some (pI l2)] [pI x2, pI x1, pR 150] LY nx (h, r, s) Q ↔ Wp 89 19 [some (pR 1), some (pI l1), some (pI l2)] [pI (w32 (x1 + x2)), pR 150] LY nx (h, r, s) Q)) ∧
  (∀ (l1 : Int) (l2 : Int) (x1 : Int) (nx : Nat) (h r : PF) (s : Int → Int) (Q : PO → PY → Nat → PC → Prop), 0 ≤ x1 → x1 < 24 → (Wp 89 19 [some (pR 1), some (pI l1), some (pI l2)] [pI x1, pR 150] LY nx (h, r, s) Q ↔ Wp 89 20 [some (pR 1), some (pI l1), some (pI l2)] [pI (h 150 x1)] LY nx (h, r, s) Q)) ∧
  (∀ (l1 : Int) (l2 : Int) (x0 : Int) (nx : Nat) (h r : PF) (s : Int → Int) (Q : PO → PY → Nat → PC → Prop), (Wp 89 20 [some (pR 1), some (pI l1), some (pI l2)] [pI x0] LY nx (h, r, s) Q ↔ Q (Sum.inl (some (pI x0))) LY nx (h, r, s))) :=
  ⟨fun l1 l2 nx h r s Q  => o_aload_n (by decide +kernel : pcode 89 0 = some (10, 0, 0, 0, 0)) rfl,
  fun l1 l2 nx h r s Q  => o_iload_n (by decide +kernel : pcode 89 1 = some (6, 1, 0, 0, 0)) rfl,
  fun l1 l2 x1 nx h r s Q  => o_iload_n (by decide +kernel : pcode 89 2 = some (6, 2, 0, 0, 0)) rfl,
  fun l1 l2 x1 x2 nx h r s Q  => o_ivV (s1 := [pI x2, pI x1]) (s2 := []) (o := 1) (by decide +kernel : pcode 89 3 = some (78, 119, 3, 846, 142)) rfl (Nat.le_of_ble_eq_true rfl) (by decide) (by decide +kernel) rfl rfl rfl,
  fun l1 l2 nx h r s Q  => o_aload_n (by decide +kernel : pcode 89 6 = some (10, 0, 0, 0, 0)) rfl,
  fun l1 l2 nx h r s Q hw => o_getR (h := (h, r, s)) (by decide +kernel : pcode 89 7 = some (57, 446, 7, 4, 40)) (by decide) (by decide +kernel) (hw _ (List.mem_of_getElem? (i := 4) rfl)) (by decide),
  fun l1 l2 nx h r s Q hw => o_getR (h := (h, r, s)) (by decide +kernel : pcode 89 10 = some (57, 289, 5, 5, 146)) (by decide) (by decide +kernel) (hw _ (List.mem_of_getElem? (i := 147) rfl)) (by decide),
  fun l1 l2 nx h r s Q  => o_iload_n (by decide +kernel : pcode 89 13 = some (6, 1, 0, 0, 0)) rfl,
  fun l1 l2 x1 nx h r s Q  => o_bipush (by decide +kernel : pcode 89 14 = some (2, 0, 0, 0, 6)),
  fun l1 l2 x1 x2 nx h r s Q  => o_imul (by decide +kernel : pcode 89 16 = some (21, 0, 0, 0, 0)),
  fun l1 l2 x1 nx h r s Q  => o_iload_n (by decide +kernel : pcode 89 17 = some (6, 2, 0, 0, 0)) rfl,
  fun l1 l2 x1 x2 nx h r s Q  => o_iadd (by decide +kernel : pcode 89 18 = some (19, 0, 0, 0, 0)),
  fun l1 l2 x1 nx h r s Q hi hn => o_iald (h := (h, r, s)) (n := 24) (by decide +kernel : pcode 89 19 = some (63, 0, 0, 0, 0)) (by decide) (by decide +kernel) hi hn,
  fun l1 l2 x0 nx h r s Q  => o_iret (by decide +kernel : pcode 89 20 = some (87, 0, 0, 0, 0))⟩
set_option maxHeartbeats 4000000 in
set_option maxRecDepth 10000 in
theorem st_X7_isAccepting :
  (∀ (l1 : Int) (l2 : Int) (nx : Nat) (h r : PF) (s : Int → Int) (Q : PO → PY → Nat → PC → Prop), (Wp 90 0 [some (pR 1), some (pI l1), some (pI l2)] [] LY nx (h, r, s) Q ↔ Wp 90 1 [some (pR 1), some (pI l1), some (pI l2)] [pR 1] LY nx (h, r, s) Q)) ∧
  (∀ (l1 : Int) (l2 : Int) (nx : Nat) (h r : PF) (s : Int → Int) (Q : PO → PY → Nat → PC → Prop), (Wp 90 1 [some (pR 1), some (pI l1), some (pI l2)] [pR 1] LY nx (h, r, s) Q ↔ Wp 90 2 [some (pR 1), some (pI l1), some (pI l2)] [pI l1, pR 1] LY nx (h, r, s) Q)) ∧
  (∀ (l1 : Int) (l2 : Int) (x1 : Int) (nx : Nat) (h r : PF) (s : Int → Int) (Q : PO → PY → Nat → PC → Prop), (Wp 90 2 [some (pR 1), some (pI l1), some (pI l2)] [pI x1, pR 1] LY nx (h, r, s) Q ↔ Wp 90 3 [some (pR 1), some (pI l1), some (pI l2)] [pI l2, pI x1, pR 1] LY nx (h, r, s) Q)) ∧
  (∀ (l1 : Int) (l2 : Int) (x1 : Int) (x2 : Int) (nx : Nat) (h r : PF) (s : Int → Int) (Q : PO → PY → Nat → PC → Prop), (Wp 90 3 [some (pR 1), some (pI l1), some (pI l2)] [pI x2, pI x1, pR 1] LY nx (h, r, s) Q ↔ Wp 119 0 [some (pR 1), some (pI x1), some (pI x2)] [] LY nx (h, r, s) (Kc 90 3 [some (pR 1), some (pI l1), some (pI l2)] 6 [] Q))) ∧
  (∀ (l1 : Int) (l2 : Int) (nx : Nat) (h r : PF) (s : Int → Int) (Q : PO → PY → Nat → PC → Prop), (Wp 90 6 [some (pR 1), some (pI l1), some (pI l2)] [] LY nx (h, r, s) Q ↔ Wp 90 7 [some (pR 1), some (pI l1), some (pI l2)] [pR 1] LY nx (h, r, s) Q)) ∧
  (∀ (l1 : Int) (l2 : Int) (nx : Nat) (h r : PF) (s : Int → Int) (Q : PO → PY → Nat → PC → Prop), 0 < (r 1 6) → (Wp 90 7 [some (pR 1), some (pI l1), some (pI l2)] [pR 1] LY nx (h, r, s) Q ↔ Wp 90 10 [some (pR 1), some (pI l1), some (pI l2)] [pR (r 1 6)] LY nx (h, r, s) Q)) ∧
  (∀ (l1 : Int) (l2 : Int) (x0 : Int) (nx : Nat) (h r : PF) (s : Int → Int) (Q : PO → PY → Nat → PC → Prop), (Wp 90 10 [some (pR 1), some (pI l1), some (pI l2)] [pR x0] LY nx (h, r, s) Q ↔ Wp 90 11 [some (pR 1), some (pI l1), some (pI l2)] [pI l1, pR x0] LY nx (h, r, s) Q)) ∧
  (∀ (l1 : Int) (l2 : Int) (x0 : Int) (x1 : Int) (nx : Nat) (h r : PF) (s : Int → Int) (Q : PO → PY → Nat → PC → Prop), (Wp 90 11 [some (pR 1), some (pI l1), some (pI l2)] [pI x1, pR x0] LY nx (h, r, s) Q ↔ Wp 90 12 [some (pR 1), some (pI l1), some (pI l2)] [pI l2, pI x1, pR x0] LY nx (h, r, s) Q)) ∧
  (∀ (l1 : Int) (l2 : Int) (x0 : Int) (x1 : Int) (x2 : Int) (nx : Nat) (h r : PF) (s : Int → Int) (Q : PO → PY → Nat → PC → Prop), 0 < x0 → kd LY x0 = (0, 2) → (Wp 90 12 [some (pR 1), some (pI l1), some (pI l2)] [pI x2, pI x1, pR x0] LY nx (h, r, s) Q ↔ Wp 22 0 [some (pR x0), some (pI x1), some (pI x2)] [] LY nx (h, r, s) (Kc 90 12 [some (pR 1), some (pI l1), some (pI l2)] 15 [] Q))) ∧
  (∀ (l1 : Int) (l2 : Int) (x0 : Int) (nx : Nat) (h r : PF) (s : Int → Int) (Q : PO → PY → Nat → PC → Prop), x0 = 0 ∨ x0 = 1 → (Wp 90 15 [some (pR 1), some (pI l1), some (pI l2)] [pI x0] LY nx (h, r, s) Q ↔ Q (Sum.inl (some (pI x0))) LY nx (h, r, s))) :=
  ⟨fun l1 l2 nx h r s Q  => o_aload_n (by decide +kernel : pcode 90 0 = some (10, 0, 0, 0, 0)) rfl,
  fun l1 l2 nx h r s Q  => o_iload_n (by decide +kernel : pcode 90 1 = some (6, 1, 0, 0, 0)) rfl,
  fun l1 l2 x1 nx h r s Q  => o_iload_n (by decide +kernel : pcode 90 2 = some (6, 2, 0, 0, 0)) rfl,
  fun l1 l2 x1 x2 nx h r s Q  => o_ivV (s1 := [pI x2, pI x1]) (s2 := []) (o := 1) (by decide +kernel : pcode 90 3 = some (78, 119, 3, 846, 142)) rfl (Nat.le_of_ble_eq_true rfl) (by decide) (by decide +kernel) rfl rfl rfl,
  fun l1 l2 nx h r s Q  => o_aload_n (by decide +kernel : pcode 90 6 = some (10, 0, 0, 0, 0)) rfl,
  fun l1 l2 nx h r s Q h9 => o_getR (h := (h, r, s)) (by decide +kernel : pcode 90 7 = some (57, 448, 7, 6, 50)) (by decide) (by decide +kernel) rfl h9,
  fun l1 l2 x0 nx h r s Q  => o_iload_n (by decide +kernel : pcode 90 10 = some (6, 1, 0, 0, 0)) rfl,
  fun l1 l2 x0 x1 nx h r s Q  => o_iload_n (by decide +kernel : pcode 90 11 = some (6, 2, 0, 0, 0)) rfl,
  fun l1 l2 x0 x1 x2 nx h r s Q h0 hk => o_ivV (s1 := [pI x2, pI x1]) (s2 := []) (o := x0) (by decide +kernel : pcode 90 12 = some (78, 22, 3, 857, 149)) rfl (Nat.le_of_ble_eq_true rfl) h0 hk rfl rfl rfl,
  fun l1 l2 x0 nx h r s Q hz => o_zret (by decide +kernel : pcode 90 15 = some (88, 0, 0, 0, 0)) hz⟩
set_option maxHeartbeats 4000000 in
set_option maxRecDepth 10000 in
theorem st_X7_goes :
  (∀ (l1 : Int) (l2 : Int) (l3 : Int) (nx : Nat) (h r : PF) (s : Int → Int) (Q : PO → PY → Nat → PC → Prop), (Wp 91 0 [some (pR 1), some (pI l1), some (pI l2), some (pI l3)] [] LY nx (h, r, s) Q ↔ Wp 91 1 [some (pR 1), some (pI l1), some (pI l2), some (pI l3)] [pR 1] LY nx (h, r, s) Q)) ∧
  (∀ (l1 : Int) (l2 : Int) (l3 : Int) (nx : Nat) (h r : PF) (s : Int → Int) (Q : PO → PY → Nat → PC → Prop), (Wp 91 1 [some (pR 1), some (pI l1), some (pI l2), some (pI l3)] [pR 1] LY nx (h, r, s) Q ↔ Wp 91 2 [some (pR 1), some (pI l1), some (pI l2), some (pI l3)] [pI l1, pR 1] LY nx (h, r, s) Q)) ∧
  (∀ (l1 : Int) (l2 : Int) (l3 : Int) (x1 : Int) (nx : Nat) (h r : PF) (s : Int → Int) (Q : PO → PY → Nat → PC → Prop), (Wp 91 2 [some (pR 1), some (pI l1), some (pI l2), some (pI l3)] [pI x1, pR 1] LY nx (h, r, s) Q ↔ Wp 91 3 [some (pR 1), some (pI l1), some (pI l2), some (pI l3)] [pI l2, pI x1, pR 1] LY nx (h, r, s) Q)) ∧
  (∀ (l1 : Int) (l2 : Int) (l3 : Int) (x1 : Int) (x2 : Int) (nx : Nat) (h r : PF) (s : Int → Int) (Q : PO → PY → Nat → PC → Prop), (Wp 91 3 [some (pR 1), some (pI l1), some (pI l2), some (pI l3)] [pI x2, pI x1, pR 1] LY nx (h, r, s) Q ↔ Wp 119 0 [some (pR 1), some (pI x1), some (pI x2)] [] LY nx (h, r, s) (Kc 91 3 [some (pR 1), some (pI l1), some (pI l2), some (pI l3)] 6 [] Q))) ∧
  (∀ (l1 : Int) (l2 : Int) (l3 : Int) (nx : Nat) (h r : PF) (s : Int → Int) (Q : PO → PY → Nat → PC → Prop), (Wp 91 6 [some (pR 1), some (pI l1), some (pI l2), some (pI l3)] [] LY nx (h, r, s) Q ↔ Wp 91 7 [some (pR 1), some (pI l1), some (pI l2), some (pI l3)] [pR 1] LY nx (h, r, s) Q)) ∧
  (∀ (l1 : Int) (l2 : Int) (l3 : Int) (nx : Nat) (h r : PF) (s : Int → Int) (Q : PO → PY → Nat → PC → Prop), (Wp 91 7 [some (pR 1), some (pI l1), some (pI l2), some (pI l3)] [pR 1] LY nx (h, r, s) Q ↔ Wp 91 8 [some (pR 1), some (pI l1), some (pI l2), some (pI l3)] [pI l3, pR 1] LY nx (h, r, s) Q)) ∧
  (∀ (l1 : Int) (l2 : Int) (l3 : Int) (x1 : Int) (nx : Nat) (h r : PF) (s : Int → Int) (Q : PO → PY → Nat → PC → Prop), (Wp 91 8 [some (pR 1), some (pI l1), some (pI l2), some (pI l3)] [pI x1, pR 1] LY nx (h, r, s) Q ↔ Wp 120 0 [some (pR 1), some (pI x1)] [] LY nx (h, r, s) (Kc 91 8 [some (pR 1), some (pI l1), some (pI l2), some (pI l3)] 11 [] Q))) ∧
  (∀ (l1 : Int) (l2 : Int) (l3 : Int) (nx : Nat) (h r : PF) (s : Int → Int) (Q : PO → PY → Nat → PC → Prop), (Wp 91 11 [some (pR 1), some (pI l1), some (pI l2), some (pI l3)] [] LY nx (h, r, s) Q ↔ Wp 91 12 [some (pR 1), some (pI l1), some (pI l2), some (pI l3)] [pR 1] LY nx (h, r, s) Q)) ∧
  (∀ (l1 : Int) (l2 : Int) (l3 : Int) (nx : Nat) (h r : PF) (s : Int → Int) (Q : PO → PY → Nat → PC → Prop), 0 < (r 1 6) → (Wp 91 12 [some (pR 1), some (pI l1), some (pI l2), some (pI l3)] [pR 1] LY nx (h, r, s) Q ↔ Wp 91 15 [some (pR 1), some (pI l1), some (pI l2), some (pI l3)] [pR (r 1 6)] LY nx (h, r, s) Q)) ∧
  (∀ (l1 : Int) (l2 : Int) (l3 : Int) (x0 : Int) (nx : Nat) (h r : PF) (s : Int → Int) (Q : PO → PY → Nat → PC → Prop), (Wp 91 15 [some (pR 1), some (pI l1), some (pI l2), some (pI l3)] [pR x0] LY nx (h, r, s) Q ↔ Wp 91 16 [some (pR 1), some (pI l1), some (pI l2), some (pI l3)] [pI l1, pR x0] LY nx (h, r, s) Q)) ∧
  (∀ (l1 : Int) (l2 : Int) (l3 : Int) (x0 : Int) (x1 : Int) (nx : Nat) (h r : PF) (s : Int → Int) (Q : PO → PY → Nat → PC → Prop), (Wp 91 16 [some (pR 1), some (pI l1), some (pI l2), some (pI l3)] [pI x1, pR x0] LY nx (h, r, s) Q ↔ Wp 91 17 [some (pR 1), some (pI l1), some (pI l2), some (pI l3)] [pI l2, pI x1, pR x0] LY nx (h, r, s) Q)) ∧
  (∀ (l1 : Int) (l2 : Int) (l3 : Int) (x0 : Int) (x1 : Int) (x2 : Int) (nx : Nat) (h r : PF) (s : Int → Int) (Q : PO → PY → Nat → PC → Prop), (Wp 91 17 [some (pR 1), some (pI l1), some (pI l2), some (pI l3)] [pI x2, pI x1, pR x0] LY nx (h, r, s) Q ↔ Wp 91 18 [some (pR 1), some (pI l1), some (pI l2), some (pI l3)] [pI l3, pI x2, pI x1, pR x0] LY nx (h, r, s) Q)) ∧
  (∀ (l1 : Int) (l2 : Int) (l3 : Int) (x0 : Int) (x1 : Int) (x2 : Int) (x3 : Int) (nx : Nat) (h r : PF) (s : Int → Int) (Q : PO → PY → Nat → PC → Prop), 0 < x0 → kd LY x0 = (0, 2) → (Wp 91 18 [some (pR 1), some (pI l1), some (pI l2), some (pI l3)] [pI x3, pI x2, pI x1, pR x0] LY nx (h, r, s) Q ↔ Wp 20 0 [some (pR x0), some (pI x1), some (pI x2), some (pI x3)] [] LY nx (h, r, s) (Kc 91 18 [some (pR 1), some (pI l1), some (pI l2), some (pI l3)] 21 [] Q))) ∧
  (∀ (l1 : Int) (l2 : Int) (l3 : Int) (x0 : Int) (nx : Nat) (h r : PF) (s : Int → Int) (Q : PO → PY → Nat → PC → Prop), (Wp 91 21 [some (pR 1), some (pI l1), some (pI l2), some (pI l3)] [pI x0] LY nx (h, r, s) Q ↔ Q (Sum.inl (some (pI x0))) LY nx (h, r, s))) :=
  ⟨fun l1 l2 l3 nx h r s Q  => o_aload_n (by decide +kernel : pcode 91 0 = some (10, 0, 0, 0, 0)) rfl,
  fun l1 l2 l3 nx h r s Q  => o_iload_n (by decide +kernel : pcode 91 1 = some (6, 1, 0, 0, 0)) rfl,
  fun l1 l2 l3 x1 nx h r s Q  => o_iload_n (by decide +kernel : pcode 91 2 = some (6, 2, 0, 0, 0)) rfl,
  fun l1 l2 l3 x1 x2 nx h r s Q  => o_ivV (s1 := [pI x2, pI x1]) (s2 := []) (o := 1) (by decide +kernel : pcode 91 3 = some (78, 119, 3, 846, 142)) rfl (Nat.le_of_ble_eq_true rfl) (by decide) (by decide +kernel) rfl rfl rfl,
  fun l1 l2 l3 nx h r s Q  => o_aload_n (by decide +kernel : pcode 91 6 = some (10, 0, 0, 0, 0)) rfl,
  fun l1 l2 l3 nx h r s Q  => o_iload_n (by decide +kernel : pcode 91 7 = some (6, 3, 0, 0, 0)) rfl,
  fun l1 l2 l3 x1 nx h r s Q  => o_ivV (s1 := [pI x1]) (s2 := []) (o := 1) (by decide +kernel : pcode 91 8 = some (78, 120, 2, 865, 153)) rfl (Nat.le_of_ble_eq_true rfl) (by decide) (by decide +kernel) rfl rfl rfl,
  fun l1 l2 l3 nx h r s Q  => o_aload_n (by decide +kernel : pcode 91 11 = some (10, 0, 0, 0, 0)) rfl,
  fun l1 l2 l3 nx h r s Q h9 => o_getR (h := (h, r, s)) (by decide +kernel : pcode 91 12 = some (57, 448, 7, 6, 50)) (by decide) (by decide +kernel) rfl h9,
  fun l1 l2 l3 x0 nx h r s Q  => o_iload_n (by decide +kernel : pcode 91 15 = some (6, 1, 0, 0, 0)) rfl,
  fun l1 l2 l3 x0 x1 nx h r s Q  => o_iload_n (by decide +kernel : pcode 91 16 = some (6, 2, 0, 0, 0)) rfl,
  fun l1 l2 l3 x0 x1 x2 nx h r s Q  => o_iload_n (by decide +kernel : pcode 91 17 = some (6, 3, 0, 0, 0)) rfl,
  fun l1 l2 l3 x0 x1 x2 x3 nx h r s Q h0 hk => o_ivV (s1 := [pI x3, pI x2, pI x1]) (s2 := []) (o := x0) (by decide +kernel : pcode 91 18 = some (78, 20, 4, 869, 156)) rfl (Nat.le_of_ble_eq_true rfl) h0 hk rfl rfl rfl,
  fun l1 l2 l3 x0 nx h r s Q  => o_iret (by decide +kernel : pcode 91 21 = some (87, 0, 0, 0, 0))⟩
set_option maxHeartbeats 4000000 in
set_option maxRecDepth 10000 in
theorem st_X7_distance :
  (∀ (l1 : Int) (l2 : Int) (nx : Nat) (h r : PF) (s : Int → Int) (Q : PO → PY → Nat → PC → Prop), (Wp 92 0 [some (pR 1), some (pI l1), some (pI l2)] [] LY nx (h, r, s) Q ↔ Wp 92 1 [some (pR 1), some (pI l1), some (pI l2)] [pR 1] LY nx (h, r, s) Q)) ∧
  (∀ (l1 : Int) (l2 : Int) (nx : Nat) (h r : PF) (s : Int → Int) (Q : PO → PY → Nat → PC → Prop), (Wp 92 1 [some (pR 1), some (pI l1), some (pI l2)] [pR 1] LY nx (h, r, s) Q ↔ Wp 92 2 [some (pR 1), some (pI l1), some (pI l2)] [pI l1, pR 1] LY nx (h, r, s) Q)) ∧
  (∀ (l1 : Int) (l2 : Int) (x1 : Int) (nx : Nat) (h r : PF) (s : Int → Int) (Q : PO → PY → Nat → PC → Prop), (Wp 92 2 [some (pR 1), some (pI l1), some (pI l2)] [pI x1, pR 1] LY nx (h, r, s) Q ↔ Wp 92 3 [some (pR 1), some (pI l1), some (pI l2)] [pI l2, pI x1, pR 1] LY nx (h, r, s) Q)) ∧
  (∀ (l1 : Int) (l2 : Int) (x1 : Int) (x2 : Int) (nx : Nat) (h r : PF) (s : Int → Int) (Q : PO → PY → Nat → PC → Prop), (Wp 92 3 [some (pR 1), some (pI l1), some (pI l2)] [pI x2, pI x1, pR 1] LY nx (h, r, s) Q ↔ Wp 119 0 [some (pR 1), some (pI x1), some (pI x2)] [] LY nx (h, r, s) (Kc 92 3 [some (pR 1), some (pI l1), some (pI l2)] 6 [] Q))) ∧
  (∀ (l1 : Int) (l2 : Int) (nx : Nat) (h r : PF) (s : Int → Int) (Q : PO → PY → Nat → PC → Prop), (Wp 92 6 [some (pR 1), some (pI l1), some (pI l2)] [] LY nx (h, r, s) Q ↔ Wp 92 7 [some (pR 1), some (pI l1), some (pI l2)] [pR 1] LY nx (h, r, s) Q)) ∧
  (∀ (l1 : Int) (l2 : Int) (nx : Nat) (h r : PF) (s : Int → Int) (Q : PO → PY → Nat → PC → Prop), WFr r → (Wp 92 7 [some (pR 1), some (pI l1), some (pI l2)] [pR 1] LY nx (h, r, s) Q ↔ Wp 92 10 [some (pR 1), some (pI l1), some (pI l2)] [pR 9] LY nx (h, r, s) Q)) ∧
  (∀ (l1 : Int) (l2 : Int) (nx : Nat) (h r : PF) (s : Int → Int) (Q : PO → PY → Nat → PC → Prop), (Wp 92 10 [some (pR 1), some (pI l1), some (pI l2)] [pR 9] LY nx (h, r, s) Q ↔ Wp 92 11 [some (pR 1), some (pI l1), some (pI l2)] [pR 1, pR 9] LY nx (h, r, s) Q)) ∧
  (∀ (l1 : Int) (l2 : Int) (nx : Nat) (h r : PF) (s : Int → Int) (Q : PO → PY → Nat → PC → Prop), 0 < (r 1 6) → (Wp 92 11 [some (pR 1), some (pI l1), some (pI l2)] [pR 1, pR 9] LY nx (h, r, s) Q ↔ Wp 92 14 [some (pR 1), some (pI l1), some (pI l2)] [pR (r 1 6), pR 9] LY nx (h, r, s) Q)) ∧
  (∀ (l1 : Int) (l2 : Int) (x1 : Int) (nx : Nat) (h r : PF) (s : Int → Int) (Q : PO → PY → Nat → PC → Prop), (Wp 92 14 [some (pR 1), some (pI l1), some (pI l2)] [pR x1, pR 9] LY nx (h, r, s) Q ↔ Wp 92 15 [some (pR 1), some (pI l1), some (pI l2)] [pR 1, pR x1, pR 9] LY nx (h, r, s) Q)) ∧
  (∀ (l1 : Int) (l2 : Int) (x1 : Int) (nx : Nat) (h r : PF) (s : Int → Int) (Q : PO → PY → Nat → PC → Prop), WFr r → (Wp 92 15 [some (pR 1), some (pI l1), some (pI l2)] [pR 1, pR x1, pR 9] LY nx (h, r, s) Q ↔ Wp 92 18 [some (pR 1), some (pI l1), some (pI l2)] [pR 144, pR x1, pR 9] LY nx (h, r, s) Q)) ∧
  (∀ (l1 : Int) (l2 : Int) (x1 : Int) (nx : Nat) (h r : PF) (s : Int → Int) (Q : PO → PY → Nat → PC → Prop), (Wp 92 18 [some (pR 1), some (pI l1), some (pI l2)] [pR 144, pR x1, pR 9] LY nx (h, r, s) Q ↔ Wp 92 19 [some (pR 1), some (pI l1), some (pI l2)] [pI l1, pR 144, pR x1, pR 9] LY nx (h, r, s) Q)) ∧
  (∀ (l1 : Int) (l2 : Int) (x1 : Int) (x3 : Int) (nx : Nat) (h r : PF) (s : Int → Int) (Q : PO → PY → Nat → PC → Prop), (Wp 92 19 [some (pR 1), some (pI l1), some (pI l2)] [pI x3, pR 144, pR x1, pR 9] LY nx (h, r, s) Q ↔ Wp 1 0 [some (pR 9), some (pR x1), some (pR 144), some (pI x3), none, none, none] [] LY nx (h, r, s) (Kc 92 19 [some (pR 1), some (pI l1), some (pI l2)] 22 [] Q))) ∧
  (∀ (l1 : Int) (l2 : Int) (nx : Nat) (h r : PF) (s : Int → Int) (Q : PO → PY → Nat → PC → Prop), (Wp 92 22 [some (pR 1), some (pI l1), some (pI l2)] [] LY nx (h, r, s) Q ↔ Wp 92 23 [some (pR 1), some (pI l1), some (pI l2)] [pR 1] LY nx (h, r, s) Q)) ∧
  (∀ (l1 : Int) (l2 : Int) (nx : Nat) (h r : PF) (s : Int → Int) (Q : PO → PY → Nat → PC → Prop), WFr r → (Wp 92 23 [some (pR 1), some (pI l1), some (pI l2)] [pR 1] LY nx (h, r, s) Q ↔ Wp 92 26 [some (pR 1), some (pI l1), some (pI l2)] [pR 9] LY nx (h, r, s) Q)) ∧
  (∀ (l1 : Int) (l2 : Int) (nx : Nat) (h r : PF) (s : Int → Int) (Q : PO → PY → Nat → PC → Prop), WFr r → (Wp 92 26 [some (pR 1), some (pI l1), some (pI l2)] [pR 9] LY nx (h, r, s) Q ↔ Wp 92 29 [some (pR 1), some (pI l1), some (pI l2)] [pR 14] LY nx (h, r, s) Q)) ∧
  (∀ (l1 : Int) (l2 : Int) (nx : Nat) (h r : PF) (s : Int → Int) (Q : PO → PY → Nat → PC → Prop), (Wp 92 29 [some (pR 1), some (pI l1), some (pI l2)] [pR 14] LY nx (h, r, s) Q ↔ Wp 92 30 [some (pR 1), some (pI l1), some (pI l2)] [pI l2, pR 14] LY nx (h, r, s) Q)) ∧
  (∀ (l1 : Int) (l2 : Int) (x1 : Int) (nx : Nat) (h r : PF) (s : Int → Int) (Q : PO → PY → Nat → PC → Prop), 0 ≤ x1 → x1 < 6 → (Wp 92 30 [some (pR 1), some (pI l1), some (pI l2)] [pI x1, pR 14] LY nx (h, r, s) Q ↔ Wp 92 31 [some (pR 1), some (pI l1), some (pI l2)] [pI (h 14 x1)] LY nx (h, r, s) Q)) ∧
  (∀ (l1 : Int) (l2 : Int) (x0 : Int) (nx : Nat) (h r : PF) (s : Int → Int) (Q : PO → PY → Nat → PC → Prop), (Wp 92 31 [some (pR 1), some (pI l1), some (pI l2)] [pI x0] LY nx (h, r, s) Q ↔ Q (Sum.inl (some (pI x0))) LY nx (h, r, s))) :=
  ⟨fun l1 l2 nx h r s Q  => o_aload_n (by decide +kernel : pcode 92 0 = some (10, 0, 0, 0, 0)) rfl,
  fun l1 l2 nx h r s Q  => o_iload_n (by decide +kernel : pcode 92 1 = some (6, 1, 0, 0, 0)) rfl,
  fun l1 l2 x1 nx h r s Q  => o_iload_n (by decide +kernel : pcode 92 2 = some (6, 2, 0, 0, 0)) rfl,
  fun l1 l2 x1 x2 nx h r s Q  => o_ivV (s1 := [pI x2, pI x1]) (s2 := []) (o := 1) (by decide +kernel : pcode 92 3 = some (78, 119, 3, 846, 142)) rfl (Nat.le_of_ble_eq_true rfl) (by decide) (by decide +kernel) rfl rfl rfl,
  fun l1 l2 nx h r s Q  => o_aload_n (by decide +kernel : pcode 92 6 = some (10, 0, 0, 0, 0)) rfl,
  fun l1 l2 nx h r s Q hw => o_getR (h := (h, r, s)) (by decide +kernel : pcode 92 7 = some (57, 443, 7, 1, 19)) (by decide) (by decide +kernel) (hw _ (List.mem_of_getElem? (i := 1) rfl)) (by decide),
  fun l1 l2 nx h r s Q  => o_aload_n (by decide +kernel : pcode 92 10 = some (10, 0, 0, 0, 0)) rfl,
  fun l1 l2 nx h r s Q h9 => o_getR (h := (h, r, s)) (by decide +kernel : pcode 92 11 = some (57, 448, 7, 6, 50)) (by decide) (by decide +kernel) rfl h9,
  fun l1 l2 x1 nx h r s Q  => o_aload_n (by decide +kernel : pcode 92 14 = some (10, 0, 0, 0, 0)) rfl,
  fun l1 l2 x1 nx h r s Q hw => o_getR (h := (h, r, s)) (by decide +kernel : pcode 92 15 = some (57, 446, 7, 4, 40)) (by decide) (by decide +kernel) (hw _ (List.mem_of_getElem? (i := 4) rfl)) (by decide),
  fun l1 l2 x1 nx h r s Q  => o_iload_n (by decide +kernel : pcode 92 18 = some (6, 1, 0, 0, 0)) rfl,
  fun l1 l2 x1 x3 nx h r s Q  => o_ivV (s1 := [pI x3, pR 144, pR x1]) (s2 := []) (o := 9) (by decide +kernel : pcode 92 19 = some (78, 1, 4, 877, 160)) rfl (Nat.le_of_ble_eq_true rfl) (by decide) (by decide +kernel) rfl rfl rfl,
  fun l1 l2 nx h r s Q  => o_aload_n (by decide +kernel : pcode 92 22 = some (10, 0, 0, 0, 0)) rfl,
  fun l1 l2 nx h r s Q hw => o_getR (h := (h, r, s)) (by decide +kernel : pcode 92 23 = some (57, 443, 7, 1, 19)) (by decide) (by decide +kernel) (hw _ (List.mem_of_getElem? (i := 1) rfl)) (by decide),
  fun l1 l2 nx h r s Q hw => o_getR (h := (h, r, s)) (by decide +kernel : pcode 92 26 = some (57, 208, 0, 4, 164)) (by decide) (by decide +kernel) (hw _ (List.mem_of_getElem? (i := 16) rfl)) (by decide),
  fun l1 l2 nx h r s Q  => o_iload_n (by decide +kernel : pcode 92 29 = some (6, 2, 0, 0, 0)) rfl,
  fun l1 l2 x1 nx h r s Q hi hn => o_iald (h := (h, r, s)) (n := 6) (by decide +kernel : pcode 92 30 = some (63, 0, 0, 0, 0)) (by decide) (by decide +kernel) hi hn,
  fun l1 l2 x0 nx h r s Q  => o_iret (by decide +kernel : pcode 92 31 = some (87, 0, 0, 0, 0))⟩
set_option maxHeartbeats 4000000 in
set_option maxRecDepth 10000 in
theorem st_X7_whyNotBid :
  (∀ (l1 : Int) (l2 : Int) (nx : Nat) (h r : PF) (s : Int → Int) (Q : PO → PY → Nat → PC → Prop), (Wp 93 0 [some (pR 1), some (pI l1), some (pI l2)] [] LY nx (h, r, s) Q ↔ Wp 93 1 [some (pR 1), some (pI l1), some (pI l2)] [pR 1] LY nx (h, r, s) Q)) ∧
  (∀ (l1 : Int) (l2 : Int) (nx : Nat) (h r : PF) (s : Int → Int) (Q : PO → PY → Nat → PC → Prop), (Wp 93 1 [some (pR 1), some (pI l1), some (pI l2)] [pR 1] LY nx (h, r, s) Q ↔ Wp 93 2 [some (pR 1), some (pI l1), some (pI l2)] [pI l1, pR 1] LY nx (h, r, s) Q)) ∧
  (∀ (l1 : Int) (l2 : Int) (x1 : Int) (nx : Nat) (h r : PF) (s : Int → Int) (Q : PO → PY → Nat → PC → Prop), (Wp 93 2 [some (pR 1), some (pI l1), some (pI l2)] [pI x1, pR 1] LY nx (h, r, s) Q ↔ Wp 118 0 [some (pR 1), some (pI x1)] [] LY nx (h, r, s) (Kc 93 2 [some (pR 1), some (pI l1), some (pI l2)] 5 [] Q))) ∧
  (∀ (l1 : Int) (l2 : Int) (nx : Nat) (h r : PF) (s : Int → Int) (Q : PO → PY → Nat → PC → Prop), (Wp 93 5 [some (pR 1), some (pI l1), some (pI l2)] [] LY nx (h, r, s) Q ↔ Wp 93 6 [some (pR 1), some (pI l1), some (pI l2)] [pR 1] LY nx (h, r, s) Q)) ∧
  (∀ (l1 : Int) (l2 : Int) (nx : Nat) (h r : PF) (s : Int → Int) (Q : PO → PY → Nat → PC → Prop), (Wp 93 6 [some (pR 1), some (pI l1), some (pI l2)] [pR 1] LY nx (h, r, s) Q ↔ Wp 93 7 [some (pR 1), some (pI l1), some (pI l2)] [pI l2, pR 1] LY nx (h, r, s) Q)) ∧
  (∀ (l1 : Int) (l2 : Int) (x1 : Int) (nx : Nat) (h r : PF) (s : Int → Int) (Q : PO → PY → Nat → PC → Prop), (Wp 93 7 [some (pR 1), some (pI l1), some (pI l2)] [pI x1, pR 1] LY nx (h, r, s) Q ↔ Wp 120 0 [some (pR 1), some (pI x1)] [] LY nx (h, r, s) (Kc 93 7 [some (pR 1), some (pI l1), some (pI l2)] 10 [] Q))) ∧
  (∀ (l1 : Int) (l2 : Int) (nx : Nat) (h r : PF) (s : Int → Int) (Q : PO → PY → Nat → PC → Prop), (Wp 93 10 [some (pR 1), some (pI l1), some (pI l2)] [] LY nx (h, r, s) Q ↔ Wp 93 11 [some (pR 1), some (pI l1), some (pI l2)] [pR 1] LY nx (h, r, s) Q)) ∧
  (∀ (l1 : Int) (l2 : Int) (nx : Nat) (h r : PF) (s : Int → Int) (Q : PO → PY → Nat → PC → Prop), WFr r → (Wp 93 11 [some (pR 1), some (pI l1), some (pI l2)] [pR 1] LY nx (h, r, s) Q ↔ Wp 93 14 [some (pR 1), some (pI l1), some (pI l2)] [pR 9] LY nx (h, r, s) Q)) ∧
  (∀ (l1 : Int) (l2 : Int) (nx : Nat) (h r : PF) (s : Int → Int) (Q : PO → PY → Nat → PC → Prop), (Wp 93 14 [some (pR 1), some (pI l1), some (pI l2)] [pR 9] LY nx (h, r, s) Q ↔ Wp 93 15 [some (pR 1), some (pI l1), some (pI l2)] [pR 1, pR 9] LY nx (h, r, s) Q)) ∧
  (∀ (l1 : Int) (l2 : Int) (nx : Nat) (h r : PF) (s : Int → Int) (Q : PO → PY → Nat → PC → Prop), 0 < (r 1 6) → (Wp 93 15 [some (pR 1), some (pI l1), some (pI l2)] [pR 1, pR 9] LY nx (h, r, s) Q ↔ Wp 93 18 [some (pR 1), some (pI l1), some (pI l2)] [pR (r 1 6), pR 9] LY nx (h, r, s) Q)) ∧
  (∀ (l1 : Int) (l2 : Int) (x1 : Int) (nx : Nat) (h r : PF) (s : Int → Int) (Q : PO → PY → Nat → PC → Prop), (Wp 93 18 [some (pR 1), some (pI l1), some (pI l2)] [pR x1, pR 9] LY nx (h, r, s) Q ↔ Wp 93 19 [some (pR 1), some (pI l1), some (pI l2)] [pR 1, pR x1, pR 9] LY nx (h, r, s) Q)) ∧
  (∀ (l1 : Int) (l2 : Int) (x1 : Int) (nx : Nat) (h r : PF) (s : Int → Int) (Q : PO → PY → Nat → PC → Prop), WFr r → (Wp 93 19 [some (pR 1), some (pI l1), some (pI l2)] [pR 1, pR x1, pR 9] LY nx (h, r, s) Q ↔ Wp 93 22 [some (pR 1), some (pI l1), some (pI l2)] [pR 144, pR x1, pR 9] LY nx (h, r, s) Q)) ∧
  (∀ (l1 : Int) (l2 : Int) (x1 : Int) (nx : Nat) (h r : PF) (s : Int → Int) (Q : PO → PY → Nat → PC → Prop), (Wp 93 22 [some (pR 1), some (pI l1), some (pI l2)] [pR 144, pR x1, pR 9] LY nx (h, r, s) Q ↔ Wp 93 23 [some (pR 1), some (pI l1), some (pI l2)] [pI l1, pR 144, pR x1, pR 9] LY nx (h, r, s) Q)) ∧
  (∀ (l1 : Int) (l2 : Int) (x1 : Int) (x3 : Int) (nx : Nat) (h r : PF) (s : Int → Int) (Q : PO → PY → Nat → PC → Prop), (Wp 93 23 [some (pR 1), some (pI l1), some (pI l2)] [pI x3, pR 144, pR x1, pR 9] LY nx (h, r, s) Q ↔ Wp 93 24 [some (pR 1), some (pI l1), some (pI l2)] [pI l2, pI x3, pR 144, pR x1, pR 9] LY nx (h, r, s) Q)) ∧
  (∀ (l1 : Int) (l2 : Int) (x1 : Int) (x3 : Int) (x4 : Int) (nx : Nat) (h r : PF) (s : Int → Int) (Q : PO → PY → Nat → PC → Prop), (Wp 93 24 [some (pR 1), some (pI l1), some (pI l2)] [pI x4, pI x3, pR 144, pR x1, pR 9] LY nx (h, r, s) Q ↔ Wp 3 0 [some (pR 9), some (pR x1), some (pR 144), some (pI x3), some (pI x4), none] [] LY nx (h, r, s) (Kc 93 24 [some (pR 1), some (pI l1), some (pI l2)] 27 [] Q))) ∧
  (∀ (l1 : Int) (l2 : Int) (x0 : Int) (nx : Nat) (h r : PF) (s : Int → Int) (Q : PO → PY → Nat → PC → Prop), (Wp 93 27 [some (pR 1), some (pI l1), some (pI l2)] [pI x0] LY nx (h, r, s) Q ↔ Q (Sum.inl (some (pI x0))) LY nx (h, r, s))) :=
  ⟨fun l1 l2 nx h r s Q  => o_aload_n (by decide +kernel : pcode 93 0 = some (10, 0, 0, 0, 0)) rfl,
  fun l1 l2 nx h r s Q  => o_iload_n (by decide +kernel : pcode 93 1 = some (6, 1, 0, 0, 0)) rfl,
  fun l1 l2 x1 nx h r s Q  => o_ivV (s1 := [pI x1]) (s2 := []) (o := 1) (by decide +kernel : pcode 93 2 = some (78, 118, 2, 816, 116)) rfl (Nat.le_of_ble_eq_true rfl) (by decide) (by decide +kernel) rfl rfl rfl,
  fun l1 l2 nx h r s Q  => o_aload_n (by decide +kernel : pcode 93 5 = some (10, 0, 0, 0, 0)) rfl,
  fun l1 l2 nx h r s Q  => o_iload_n (by decide +kernel : pcode 93 6 = some (6, 2, 0, 0, 0)) rfl,
  fun l1 l2 x1 nx h r s Q  => o_ivV (s1 := [pI x1]) (s2 := []) (o := 1) (by decide +kernel : pcode 93 7 = some (78, 120, 2, 865, 153)) rfl (Nat.le_of_ble_eq_true rfl) (by decide) (by decide +kernel) rfl rfl rfl,
  fun l1 l2 nx h r s Q  => o_aload_n (by decide +kernel : pcode 93 10 = some (10, 0, 0, 0, 0)) rfl,
  fun l1 l2 nx h r s Q hw => o_getR (h := (h, r, s)) (by decide +kernel : pcode 93 11 = some (57, 443, 7, 1, 19)) (by decide) (by decide +kernel) (hw _ (List.mem_of_getElem? (i := 1) rfl)) (by decide),
  fun l1 l2 nx h r s Q  => o_aload_n (by decide +kernel : pcode 93 14 = some (10, 0, 0, 0, 0)) rfl,
  fun l1 l2 nx h r s Q h9 => o_getR (h := (h, r, s)) (by decide +kernel : pcode 93 15 = some (57, 448, 7, 6, 50)) (by decide) (by decide +kernel) rfl h9,
  fun l1 l2 x1 nx h r s Q  => o_aload_n (by decide +kernel : pcode 93 18 = some (10, 0, 0, 0, 0)) rfl,
  fun l1 l2 x1 nx h r s Q hw => o_getR (h := (h, r, s)) (by decide +kernel : pcode 93 19 = some (57, 446, 7, 4, 40)) (by decide) (by decide +kernel) (hw _ (List.mem_of_getElem? (i := 4) rfl)) (by decide),
  fun l1 l2 x1 nx h r s Q  => o_iload_n (by decide +kernel : pcode 93 22 = some (6, 1, 0, 0, 0)) rfl,
  fun l1 l2 x1 x3 nx h r s Q  => o_iload_n (by decide +kernel : pcode 93 23 = some (6, 2, 0, 0, 0)) rfl,
  fun l1 l2 x1 x3 x4 nx h r s Q  => o_ivV (s1 := [pI x4, pI x3, pR 144, pR x1]) (s2 := []) (o := 9) (by decide +kernel : pcode 93 24 = some (78, 3, 5, 885, 167)) rfl (Nat.le_of_ble_eq_true rfl) (by decide) (by decide +kernel) rfl rfl rfl,
  fun l1 l2 x0 nx h r s Q  => o_iret (by decide +kernel : pcode 93 27 = some (87, 0, 0, 0, 0))⟩
set_option maxHeartbeats 4000000 in
set_option maxRecDepth 10000 in
theorem st_X7_bidLetter :
  (∀ (l1 : Int) (nx : Nat) (h r : PF) (s : Int → Int) (Q : PO → PY → Nat → PC → Prop), (Wp 94 0 [some (pR 1), some (pI l1)] [] LY nx (h, r, s) Q ↔ Wp 94 1 [some (pR 1), some (pI l1)] [pR 1] LY nx (h, r, s) Q)) ∧
  (∀ (l1 : Int) (nx : Nat) (h r : PF) (s : Int → Int) (Q : PO → PY → Nat → PC → Prop), (Wp 94 1 [some (pR 1), some (pI l1)] [pR 1] LY nx (h, r, s) Q ↔ Wp 94 2 [some (pR 1), some (pI l1)] [pI l1, pR 1] LY nx (h, r, s) Q)) ∧
  (∀ (l1 : Int) (x1 : Int) (nx : Nat) (h r : PF) (s : Int → Int) (Q : PO → PY → Nat → PC → Prop), (Wp 94 2 [some (pR 1), some (pI l1)] [pI x1, pR 1] LY nx (h, r, s) Q ↔ Wp 118 0 [some (pR 1), some (pI x1)] [] LY nx (h, r, s) (Kc 94 2 [some (pR 1), some (pI l1)] 5 [] Q))) ∧
  (∀ (l1 : Int) (nx : Nat) (h r : PF) (s : Int → Int) (Q : PO → PY → Nat → PC → Prop), (Wp 94 5 [some (pR 1), some (pI l1)] [] LY nx (h, r, s) Q ↔ Wp 94 6 [some (pR 1), some (pI l1)] [pR 1] LY nx (h, r, s) Q)) ∧
  (∀ (l1 : Int) (nx : Nat) (h r : PF) (s : Int → Int) (Q : PO → PY → Nat → PC → Prop), WFr r → (Wp 94 6 [some (pR 1), some (pI l1)] [pR 1] LY nx (h, r, s) Q ↔ Wp 94 9 [some (pR 1), some (pI l1)] [pR 9] LY nx (h, r, s) Q)) ∧
  (∀ (l1 : Int) (nx : Nat) (h r : PF) (s : Int → Int) (Q : PO → PY → Nat → PC → Prop), (Wp 94 9 [some (pR 1), some (pI l1)] [pR 9] LY nx (h, r, s) Q ↔ Wp 94 10 [some (pR 1), some (pI l1)] [pR 1, pR 9] LY nx (h, r, s) Q)) ∧
  (∀ (l1 : Int) (nx : Nat) (h r : PF) (s : Int → Int) (Q : PO → PY → Nat → PC → Prop), 0 < (r 1 6) → (Wp 94 10 [some (pR 1), some (pI l1)] [pR 1, pR 9] LY nx (h, r, s) Q ↔ Wp 94 13 [some (pR 1), some (pI l1)] [pR (r 1 6), pR 9] LY nx (h, r, s) Q)) ∧
  (∀ (l1 : Int) (x1 : Int) (nx : Nat) (h r : PF) (s : Int → Int) (Q : PO → PY → Nat → PC → Prop), (Wp 94 13 [some (pR 1), some (pI l1)] [pR x1, pR 9] LY nx (h, r, s) Q ↔ Wp 94 14 [some (pR 1), some (pI l1)] [pR 1, pR x1, pR 9] LY nx (h, r, s) Q)) ∧
  (∀ (l1 : Int) (x1 : Int) (nx : Nat) (h r : PF) (s : Int → Int) (Q : PO → PY → Nat → PC → Prop), WFr r → (Wp 94 14 [some (pR 1), some (pI l1)] [pR 1, pR x1, pR 9] LY nx (h, r, s) Q ↔ Wp 94 17 [some (pR 1), some (pI l1)] [pR 144, pR x1, pR 9] LY nx (h, r, s) Q)) ∧
  (∀ (l1 : Int) (x1 : Int) (nx : Nat) (h r : PF) (s : Int → Int) (Q : PO → PY → Nat → PC → Prop), (Wp 94 17 [some (pR 1), some (pI l1)] [pR 144, pR x1, pR 9] LY nx (h, r, s) Q ↔ Wp 4 0 [some (pR 9), some (pR x1), some (pR 144), none] [] LY nx (h, r, s) (Kc 94 17 [some (pR 1), some (pI l1)] 20 [] Q))) ∧
  (∀ (l1 : Int) (nx : Nat) (h r : PF) (s : Int → Int) (Q : PO → PY → Nat → PC → Prop), (Wp 94 20 [some (pR 1), some (pI l1)] [] LY nx (h, r, s) Q ↔ Wp 94 21 [some (pR 1), some (pI l1)] [pR 1] LY nx (h, r, s) Q)) ∧
  (∀ (l1 : Int) (nx : Nat) (h r : PF) (s : Int → Int) (Q : PO → PY → Nat → PC → Prop), WFr r → (Wp 94 21 [some (pR 1), some (pI l1)] [pR 1] LY nx (h, r, s) Q ↔ Wp 94 24 [some (pR 1), some (pI l1)] [pR 9] LY nx (h, r, s) Q)) ∧
  (∀ (l1 : Int) (nx : Nat) (h r : PF) (s : Int → Int) (Q : PO → PY → Nat → PC → Prop), WFr r → (Wp 94 24 [some (pR 1), some (pI l1)] [pR 9] LY nx (h, r, s) Q ↔ Wp 94 27 [some (pR 1), some (pI l1)] [pR 10] LY nx (h, r, s) Q)) ∧
  (∀ (l1 : Int) (nx : Nat) (h r : PF) (s : Int → Int) (Q : PO → PY → Nat → PC → Prop), (Wp 94 27 [some (pR 1), some (pI l1)] [pR 10] LY nx (h, r, s) Q ↔ Wp 94 28 [some (pR 1), some (pI l1)] [pI l1, pR 10] LY nx (h, r, s) Q)) ∧
  (∀ (l1 : Int) (x1 : Int) (nx : Nat) (h r : PF) (s : Int → Int) (Q : PO → PY → Nat → PC → Prop), 0 ≤ x1 → x1 < 4 → (Wp 94 28 [some (pR 1), some (pI l1)] [pI x1, pR 10] LY nx (h, r, s) Q ↔ Wp 94 29 [some (pR 1), some (pI l1)] [pI (h 10 x1)] LY nx (h, r, s) Q)) ∧
  (∀ (l1 : Int) (x0 : Int) (nx : Nat) (h r : PF) (s : Int → Int) (Q : PO → PY → Nat → PC → Prop), (Wp 94 29 [some (pR 1), some (pI l1)] [pI x0] LY nx (h, r, s) Q ↔ Q (Sum.inl (some (pI x0))) LY nx (h, r, s))) :=
  ⟨fun l1 nx h r s Q  => o_aload_n (by decide +kernel : pcode 94 0 = some (10, 0, 0, 0, 0)) rfl,
  fun l1 nx h r s Q  => o_iload_n (by decide +kernel : pcode 94 1 = some (6, 1, 0, 0, 0)) rfl,
  fun l1 x1 nx h r s Q  => o_ivV (s1 := [pI x1]) (s2 := []) (o := 1) (by decide +kernel : pcode 94 2 = some (78, 118, 2, 816, 116)) rfl (Nat.le_of_ble_eq_true rfl) (by decide) (by decide +kernel) rfl rfl rfl,
  fun l1 nx h r s Q  => o_aload_n (by decide +kernel : pcode 94 5 = some (10, 0, 0, 0, 0)) rfl,
  fun l1 nx h r s Q hw => o_getR (h := (h, r, s)) (by decide +kernel : pcode 94 6 = some (57, 443, 7, 1, 19)) (by decide) (by decide +kernel) (hw _ (List.mem_of_getElem? (i := 1) rfl)) (by decide),
  fun l1 nx h r s Q  => o_aload_n (by decide +kernel : pcode 94 9 = some (10, 0, 0, 0, 0)) rfl,
  fun l1 nx h r s Q h9 => o_getR (h := (h, r, s)) (by decide +kernel : pcode 94 10 = some (57, 448, 7, 6, 50)) (by decide) (by decide +kernel) rfl h9,
  fun l1 x1 nx h r s Q  => o_aload_n (by decide +kernel : pcode 94 13 = some (10, 0, 0, 0, 0)) rfl,
  fun l1 x1 nx h r s Q hw => o_getR (h := (h, r, s)) (by decide +kernel : pcode 94 14 = some (57, 446, 7, 4, 40)) (by decide) (by decide +kernel) (hw _ (List.mem_of_getElem? (i := 4) rfl)) (by decide),
  fun l1 x1 nx h r s Q  => o_ivV (s1 := [pR 144, pR x1]) (s2 := []) (o := 9) (by decide +kernel : pcode 94 17 = some (78, 4, 3, 483, 171)) rfl (Nat.le_of_ble_eq_true rfl) (by decide) (by decide +kernel) rfl rfl rfl,
  fun l1 nx h r s Q  => o_aload_n (by decide +kernel : pcode 94 20 = some (10, 0, 0, 0, 0)) rfl,
  fun l1 nx h r s Q hw => o_getR (h := (h, r, s)) (by decide +kernel : pcode 94 21 = some (57, 443, 7, 1, 19)) (by decide) (by decide +kernel) (hw _ (List.mem_of_getElem? (i := 1) rfl)) (by decide),
  fun l1 nx h r s Q hw => o_getR (h := (h, r, s)) (by decide +kernel : pcode 94 24 = some (57, 200, 0, 0, 175)) (by decide) (by decide +kernel) (hw _ (List.mem_of_getElem? (i := 12) rfl)) (by decide),
  fun l1 nx h r s Q  => o_iload_n (by decide +kernel : pcode 94 27 = some (6, 1, 0, 0, 0)) rfl,
  fun l1 x1 nx h r s Q hi hn => o_iald (h := (h, r, s)) (n := 4) (by decide +kernel : pcode 94 28 = some (63, 0, 0, 0, 0)) (by decide) (by decide +kernel) hi hn,
  fun l1 x0 nx h r s Q  => o_iret (by decide +kernel : pcode 94 29 = some (87, 0, 0, 0, 0))⟩
set_option maxHeartbeats 4000000 in
set_option maxRecDepth 10000 in
theorem st_X7_bid :
  (∀ (l1 : Int) (nx : Nat) (h r : PF) (s : Int → Int) (Q : PO → PY → Nat → PC → Prop), (Wp 95 0 [some (pR 1), some (pI l1)] [] LY nx (h, r, s) Q ↔ Wp 95 1 [some (pR 1), some (pI l1)] [pR 1] LY nx (h, r, s) Q)) ∧
  (∀ (l1 : Int) (nx : Nat) (h r : PF) (s : Int → Int) (Q : PO → PY → Nat → PC → Prop), (Wp 95 1 [some (pR 1), some (pI l1)] [pR 1] LY nx (h, r, s) Q ↔ Wp 95 2 [some (pR 1), some (pI l1)] [pI l1, pR 1] LY nx (h, r, s) Q)) ∧
  (∀ (l1 : Int) (x1 : Int) (nx : Nat) (h r : PF) (s : Int → Int) (Q : PO → PY → Nat → PC → Prop), (Wp 95 2 [some (pR 1), some (pI l1)] [pI x1, pR 1] LY nx (h, r, s) Q ↔ Wp 118 0 [some (pR 1), some (pI x1)] [] LY nx (h, r, s) (Kc 95 2 [some (pR 1), some (pI l1)] 5 [] Q))) ∧
  (∀ (l1 : Int) (nx : Nat) (h r : PF) (s : Int → Int) (Q : PO → PY → Nat → PC → Prop), (Wp 95 5 [some (pR 1), some (pI l1)] [] LY nx (h, r, s) Q ↔ Wp 95 6 [some (pR 1), some (pI l1)] [pR 1] LY nx (h, r, s) Q)) ∧
  (∀ (l1 : Int) (nx : Nat) (h r : PF) (s : Int → Int) (Q : PO → PY → Nat → PC → Prop), WFr r → (Wp 95 6 [some (pR 1), some (pI l1)] [pR 1] LY nx (h, r, s) Q ↔ Wp 95 9 [some (pR 1), some (pI l1)] [pR 9] LY nx (h, r, s) Q)) ∧
  (∀ (l1 : Int) (nx : Nat) (h r : PF) (s : Int → Int) (Q : PO → PY → Nat → PC → Prop), (Wp 95 9 [some (pR 1), some (pI l1)] [pR 9] LY nx (h, r, s) Q ↔ Wp 95 10 [some (pR 1), some (pI l1)] [pR 1, pR 9] LY nx (h, r, s) Q)) ∧
  (∀ (l1 : Int) (nx : Nat) (h r : PF) (s : Int → Int) (Q : PO → PY → Nat → PC → Prop), 0 < (r 1 6) → (Wp 95 10 [some (pR 1), some (pI l1)] [pR 1, pR 9] LY nx (h, r, s) Q ↔ Wp 95 13 [some (pR 1), some (pI l1)] [pR (r 1 6), pR 9] LY nx (h, r, s) Q)) ∧
  (∀ (l1 : Int) (x1 : Int) (nx : Nat) (h r : PF) (s : Int → Int) (Q : PO → PY → Nat → PC → Prop), (Wp 95 13 [some (pR 1), some (pI l1)] [pR x1, pR 9] LY nx (h, r, s) Q ↔ Wp 95 14 [some (pR 1), some (pI l1)] [pR 1, pR x1, pR 9] LY nx (h, r, s) Q)) ∧
  (∀ (l1 : Int) (x1 : Int) (nx : Nat) (h r : PF) (s : Int → Int) (Q : PO → PY → Nat → PC → Prop), WFr r → (Wp 95 14 [some (pR 1), some (pI l1)] [pR 1, pR x1, pR 9] LY nx (h, r, s) Q ↔ Wp 95 17 [some (pR 1), some (pI l1)] [pR 144, pR x1, pR 9] LY nx (h, r, s) Q)) ∧
  (∀ (l1 : Int) (x1 : Int) (nx : Nat) (h r : PF) (s : Int → Int) (Q : PO → PY → Nat → PC → Prop), (Wp 95 17 [some (pR 1), some (pI l1)] [pR 144, pR x1, pR 9] LY nx (h, r, s) Q ↔ Wp 4 0 [some (pR 9), some (pR x1), some (pR 144), none] [] LY nx (h, r, s) (Kc 95 17 [some (pR 1), some (pI l1)] 20 [] Q))) ∧
  (∀ (l1 : Int) (nx : Nat) (h r : PF) (s : Int → Int) (Q : PO → PY → Nat → PC → Prop), (Wp 95 20 [some (pR 1), some (pI l1)] [] LY nx (h, r, s) Q ↔ Wp 95 21 [some (pR 1), some (pI l1)] [pR 1] LY nx (h, r, s) Q)) ∧
  (∀ (l1 : Int) (nx : Nat) (h r : PF) (s : Int → Int) (Q : PO → PY → Nat → PC → Prop), WFr r → (Wp 95 21 [some (pR 1), some (pI l1)] [pR 1] LY nx (h, r, s) Q ↔ Wp 95 24 [some (pR 1), some (pI l1)] [pR 9] LY nx (h, r, s) Q)) ∧
  (∀ (l1 : Int) (nx : Nat) (h r : PF) (s : Int → Int) (Q : PO → PY → Nat → PC → Prop), WFr r → (Wp 95 24 [some (pR 1), some (pI l1)] [pR 9] LY nx (h, r, s) Q ↔ Wp 95 27 [some (pR 1), some (pI l1)] [pR 11] LY nx (h, r, s) Q)) ∧
  (∀ (l1 : Int) (nx : Nat) (h r : PF) (s : Int → Int) (Q : PO → PY → Nat → PC → Prop), (Wp 95 27 [some (pR 1), some (pI l1)] [pR 11] LY nx (h, r, s) Q ↔ Wp 95 28 [some (pR 1), some (pI l1)] [pI l1, pR 11] LY nx (h, r, s) Q)) ∧
  (∀ (l1 : Int) (x1 : Int) (nx : Nat) (h r : PF) (s : Int → Int) (Q : PO → PY → Nat → PC → Prop), 0 ≤ x1 → x1 < 4 → (Wp 95 28 [some (pR 1), some (pI l1)] [pI x1, pR 11] LY nx (h, r, s) Q ↔ Wp 95 29 [some (pR 1), some (pI l1)] [pI (h 11 x1)] LY nx (h, r, s) Q)) ∧
  (∀ (l1 : Int) (x0 : Int) (nx : Nat) (h r : PF) (s : Int → Int) (Q : PO → PY → Nat → PC → Prop), (Wp 95 29 [some (pR 1), some (pI l1)] [pI x0] LY nx (h, r, s) Q ↔ Q (Sum.inl (some (pI x0))) LY nx (h, r, s))) :=
  ⟨fun l1 nx h r s Q  => o_aload_n (by decide +kernel : pcode 95 0 = some (10, 0, 0, 0, 0)) rfl,
  fun l1 nx h r s Q  => o_iload_n (by decide +kernel : pcode 95 1 = some (6, 1, 0, 0, 0)) rfl,
  fun l1 x1 nx h r s Q  => o_ivV (s1 := [pI x1]) (s2 := []) (o := 1) (by decide +kernel : pcode 95 2 = some (78, 118, 2, 816, 116)) rfl (Nat.le_of_ble_eq_true rfl) (by decide) (by decide +kernel) rfl rfl rfl,
  fun l1 nx h r s Q  => o_aload_n (by decide +kernel : pcode 95 5 = some (10, 0, 0, 0, 0)) rfl,
  fun l1 nx h r s Q hw => o_getR (h := (h, r, s)) (by decide +kernel : pcode 95 6 = some (57, 443, 7, 1, 19)) (by decide) (by decide +kernel) (hw _ (List.mem_of_getElem? (i := 1) rfl)) (by decide),
  fun l1 nx h r s Q  => o_aload_n (by decide +kernel : pcode 95 9 = some (10, 0, 0, 0, 0)) rfl,
  fun l1 nx h r s Q h9 => o_getR (h := (h, r, s)) (by decide +kernel : pcode 95 10 = some (57, 448, 7, 6, 50)) (by decide) (by decide +kernel) rfl h9,
  fun l1 x1 nx h r s Q  => o_aload_n (by decide +kernel : pcode 95 13 = some (10, 0, 0, 0, 0)) rfl,
  fun l1 x1 nx h r s Q hw => o_getR (h := (h, r, s)) (by decide +kernel : pcode 95 14 = some (57, 446, 7, 4, 40)) (by decide) (by decide +kernel) (hw _ (List.mem_of_getElem? (i := 4) rfl)) (by decide),
  fun l1 x1 nx h r s Q  => o_ivV (s1 := [pR 144, pR x1]) (s2 := []) (o := 9) (by decide +kernel : pcode 95 17 = some (78, 4, 3, 483, 171)) rfl (Nat.le_of_ble_eq_true rfl) (by decide) (by decide +kernel) rfl rfl rfl,
  fun l1 nx h r s Q  => o_aload_n (by decide +kernel : pcode 95 20 = some (10, 0, 0, 0, 0)) rfl,
  fun l1 nx h r s Q hw => o_getR (h := (h, r, s)) (by decide +kernel : pcode 95 21 = some (57, 443, 7, 1, 19)) (by decide) (by decide +kernel) (hw _ (List.mem_of_getElem? (i := 1) rfl)) (by decide),
  fun l1 nx h r s Q hw => o_getR (h := (h, r, s)) (by decide +kernel : pcode 95 24 = some (57, 202, 0, 1, 178)) (by decide) (by decide +kernel) (hw _ (List.mem_of_getElem? (i := 13) rfl)) (by decide),
  fun l1 nx h r s Q  => o_iload_n (by decide +kernel : pcode 95 27 = some (6, 1, 0, 0, 0)) rfl,
  fun l1 x1 nx h r s Q hi hn => o_iald (h := (h, r, s)) (n := 4) (by decide +kernel : pcode 95 28 = some (63, 0, 0, 0, 0)) (by decide) (by decide +kernel) hi hn,
  fun l1 x0 nx h r s Q  => o_iret (by decide +kernel : pcode 95 29 = some (87, 0, 0, 0, 0))⟩
set_option maxHeartbeats 4000000 in
set_option maxRecDepth 10000 in
theorem st_X7_sum :
  (∀ (l1 : Int) (nx : Nat) (h r : PF) (s : Int → Int) (Q : PO → PY → Nat → PC → Prop), (Wp 96 0 [some (pR 1), some (pI l1)] [] LY nx (h, r, s) Q ↔ Wp 96 1 [some (pR 1), some (pI l1)] [pR 1] LY nx (h, r, s) Q)) ∧
  (∀ (l1 : Int) (nx : Nat) (h r : PF) (s : Int → Int) (Q : PO → PY → Nat → PC → Prop), (Wp 96 1 [some (pR 1), some (pI l1)] [pR 1] LY nx (h, r, s) Q ↔ Wp 96 2 [some (pR 1), some (pI l1)] [pI l1, pR 1] LY nx (h, r, s) Q)) ∧
  (∀ (l1 : Int) (x1 : Int) (nx : Nat) (h r : PF) (s : Int → Int) (Q : PO → PY → Nat → PC → Prop), (Wp 96 2 [some (pR 1), some (pI l1)] [pI x1, pR 1] LY nx (h, r, s) Q ↔ Wp 120 0 [some (pR 1), some (pI x1)] [] LY nx (h, r, s) (Kc 96 2 [some (pR 1), some (pI l1)] 5 [] Q))) ∧
  (∀ (l1 : Int) (nx : Nat) (h r : PF) (s : Int → Int) (Q : PO → PY → Nat → PC → Prop), (Wp 96 5 [some (pR 1), some (pI l1)] [] LY nx (h, r, s) Q ↔ Wp 96 6 [some (pR 1), some (pI l1)] [pR 1] LY nx (h, r, s) Q)) ∧
  (∀ (l1 : Int) (nx : Nat) (h r : PF) (s : Int → Int) (Q : PO → PY → Nat → PC → Prop), WFr r → (Wp 96 6 [some (pR 1), some (pI l1)] [pR 1] LY nx (h, r, s) Q ↔ Wp 96 9 [some (pR 1), some (pI l1)] [pR 9] LY nx (h, r, s) Q)) ∧
  (∀ (l1 : Int) (nx : Nat) (h r : PF) (s : Int → Int) (Q : PO → PY → Nat → PC → Prop), (Wp 96 9 [some (pR 1), some (pI l1)] [pR 9] LY nx (h, r, s) Q ↔ Wp 96 10 [some (pR 1), some (pI l1)] [pR 1, pR 9] LY nx (h, r, s) Q)) ∧
  (∀ (l1 : Int) (nx : Nat) (h r : PF) (s : Int → Int) (Q : PO → PY → Nat → PC → Prop), 0 < (r 1 6) → (Wp 96 10 [some (pR 1), some (pI l1)] [pR 1, pR 9] LY nx (h, r, s) Q ↔ Wp 96 13 [some (pR 1), some (pI l1)] [pR (r 1 6), pR 9] LY nx (h, r, s) Q)) ∧
  (∀ (l1 : Int) (x1 : Int) (nx : Nat) (h r : PF) (s : Int → Int) (Q : PO → PY → Nat → PC → Prop), (Wp 96 13 [some (pR 1), some (pI l1)] [pR x1, pR 9] LY nx (h, r, s) Q ↔ Wp 96 14 [some (pR 1), some (pI l1)] [pR 1, pR x1, pR 9] LY nx (h, r, s) Q)) ∧
  (∀ (l1 : Int) (x1 : Int) (nx : Nat) (h r : PF) (s : Int → Int) (Q : PO → PY → Nat → PC → Prop), WFr r → (Wp 96 14 [some (pR 1), some (pI l1)] [pR 1, pR x1, pR 9] LY nx (h, r, s) Q ↔ Wp 96 17 [some (pR 1), some (pI l1)] [pR 144, pR x1, pR 9] LY nx (h, r, s) Q)) ∧
  (∀ (l1 : Int) (x1 : Int) (nx : Nat) (h r : PF) (s : Int → Int) (Q : PO → PY → Nat → PC → Prop), (Wp 96 17 [some (pR 1), some (pI l1)] [pR 144, pR x1, pR 9] LY nx (h, r, s) Q ↔ Wp 4 0 [some (pR 9), some (pR x1), some (pR 144), none] [] LY nx (h, r, s) (Kc 96 17 [some (pR 1), some (pI l1)] 20 [] Q))) ∧
  (∀ (l1 : Int) (nx : Nat) (h r : PF) (s : Int → Int) (Q : PO → PY → Nat → PC → Prop), (Wp 96 20 [some (pR 1), some (pI l1)] [] LY nx (h, r, s) Q ↔ Wp 96 21 [some (pR 1), some (pI l1)] [pR 1] LY nx (h, r, s) Q)) ∧
  (∀ (l1 : Int) (nx : Nat) (h r : PF) (s : Int → Int) (Q : PO → PY → Nat → PC → Prop), WFr r → (Wp 96 21 [some (pR 1), some (pI l1)] [pR 1] LY nx (h, r, s) Q ↔ Wp 96 24 [some (pR 1), some (pI l1)] [pR 9] LY nx (h, r, s) Q)) ∧
  (∀ (l1 : Int) (nx : Nat) (h r : PF) (s : Int → Int) (Q : PO → PY → Nat → PC → Prop), WFr r → (Wp 96 24 [some (pR 1), some (pI l1)] [pR 9] LY nx (h, r, s) Q ↔ Wp 96 27 [some (pR 1), some (pI l1)] [pR 13] LY nx (h, r, s) Q)) ∧
  (∀ (l1 : Int) (nx : Nat) (h r : PF) (s : Int → Int) (Q : PO → PY → Nat → PC → Prop), (Wp 96 27 [some (pR 1), some (pI l1)] [pR 13] LY nx (h, r, s) Q ↔ Wp 96 28 [some (pR 1), some (pI l1)] [pI l1, pR 13] LY nx (h, r, s) Q)) ∧
  (∀ (l1 : Int) (x1 : Int) (nx : Nat) (h r : PF) (s : Int → Int) (Q : PO → PY → Nat → PC → Prop), 0 ≤ x1 → x1 < 4 → (Wp 96 28 [some (pR 1), some (pI l1)] [pI x1, pR 13] LY nx (h, r, s) Q ↔ Wp 96 29 [some (pR 1), some (pI l1)] [pI (h 13 x1)] LY nx (h, r, s) Q)) ∧
  (∀ (l1 : Int) (x0 : Int) (nx : Nat) (h r : PF) (s : Int → Int) (Q : PO → PY → Nat → PC → Prop), (Wp 96 29 [some (pR 1), some (pI l1)] [pI x0] LY nx (h, r, s) Q ↔ Q (Sum.inl (some (pI x0))) LY nx (h, r, s))) :=
  ⟨fun l1 nx h r s Q  => o_aload_n (by decide +kernel : pcode 96 0 = some (10, 0, 0, 0, 0)) rfl,
  fun l1 nx h r s Q  => o_iload_n (by decide +kernel : pcode 96 1 = some (6, 1, 0, 0, 0)) rfl,
  fun l1 x1 nx h r s Q  => o_ivV (s1 := [pI x1]) (s2 := []) (o := 1) (by decide +kernel : pcode 96 2 = some (78, 120, 2, 865, 153)) rfl (Nat.le_of_ble_eq_true rfl) (by decide) (by decide +kernel) rfl rfl rfl,
  fun l1 nx h r s Q  => o_aload_n (by decide +kernel : pcode 96 5 = some (10, 0, 0, 0, 0)) rfl,
  fun l1 nx h r s Q hw => o_getR (h := (h, r, s)) (by decide +kernel : pcode 96 6 = some (57, 443, 7, 1, 19)) (by decide) (by decide +kernel) (hw _ (List.mem_of_getElem? (i := 1) rfl)) (by decide),
  fun l1 nx h r s Q  => o_aload_n (by decide +kernel : pcode 96 9 = some (10, 0, 0, 0, 0)) rfl,
  fun l1 nx h r s Q h9 => o_getR (h := (h, r, s)) (by decide +kernel : pcode 96 10 = some (57, 448, 7, 6, 50)) (by decide) (by decide +kernel) rfl h9,
  fun l1 x1 nx h r s Q  => o_aload_n (by decide +kernel : pcode 96 13 = some (10, 0, 0, 0, 0)) rfl,
  fun l1 x1 nx h r s Q hw => o_getR (h := (h, r, s)) (by decide +kernel : pcode 96 14 = some (57, 446, 7, 4, 40)) (by decide) (by decide +kernel) (hw _ (List.mem_of_getElem? (i := 4) rfl)) (by decide),
  fun l1 x1 nx h r s Q  => o_ivV (s1 := [pR 144, pR x1]) (s2 := []) (o := 9) (by decide +kernel : pcode 96 17 = some (78, 4, 3, 483, 171)) rfl (Nat.le_of_ble_eq_true rfl) (by decide) (by decide +kernel) rfl rfl rfl,
  fun l1 nx h r s Q  => o_aload_n (by decide +kernel : pcode 96 20 = some (10, 0, 0, 0, 0)) rfl,
  fun l1 nx h r s Q hw => o_getR (h := (h, r, s)) (by decide +kernel : pcode 96 21 = some (57, 443, 7, 1, 19)) (by decide) (by decide +kernel) (hw _ (List.mem_of_getElem? (i := 1) rfl)) (by decide),
  fun l1 nx h r s Q hw => o_getR (h := (h, r, s)) (by decide +kernel : pcode 96 24 = some (57, 206, 0, 3, 181)) (by decide) (by decide +kernel) (hw _ (List.mem_of_getElem? (i := 15) rfl)) (by decide),
  fun l1 nx h r s Q  => o_iload_n (by decide +kernel : pcode 96 27 = some (6, 1, 0, 0, 0)) rfl,
  fun l1 x1 nx h r s Q hi hn => o_iald (h := (h, r, s)) (n := 4) (by decide +kernel : pcode 96 28 = some (63, 0, 0, 0, 0)) (by decide) (by decide +kernel) hi hn,
  fun l1 x0 nx h r s Q  => o_iret (by decide +kernel : pcode 96 29 = some (87, 0, 0, 0, 0))⟩
set_option maxHeartbeats 4000000 in
set_option maxRecDepth 10000 in
theorem st_X7_winner :
  (∀  (nx : Nat) (h r : PF) (s : Int → Int) (Q : PO → PY → Nat → PC → Prop), (Wp 97 0 [some (pR 1)] [] LY nx (h, r, s) Q ↔ Wp 97 1 [some (pR 1)] [pR 1] LY nx (h, r, s) Q)) ∧
  (∀  (nx : Nat) (h r : PF) (s : Int → Int) (Q : PO → PY → Nat → PC → Prop), WFr r → (Wp 97 1 [some (pR 1)] [pR 1] LY nx (h, r, s) Q ↔ Wp 97 4 [some (pR 1)] [pR 9] LY nx (h, r, s) Q)) ∧
  (∀  (nx : Nat) (h r : PF) (s : Int → Int) (Q : PO → PY → Nat → PC → Prop), (Wp 97 4 [some (pR 1)] [pR 9] LY nx (h, r, s) Q ↔ Wp 97 5 [some (pR 1)] [pR 1, pR 9] LY nx (h, r, s) Q)) ∧
  (∀  (nx : Nat) (h r : PF) (s : Int → Int) (Q : PO → PY → Nat → PC → Prop), 0 < (r 1 6) → (Wp 97 5 [some (pR 1)] [pR 1, pR 9] LY nx (h, r, s) Q ↔ Wp 97 8 [some (pR 1)] [pR (r 1 6), pR 9] LY nx (h, r, s) Q)) ∧
  (∀ (x1 : Int) (nx : Nat) (h r : PF) (s : Int → Int) (Q : PO → PY → Nat → PC → Prop), (Wp 97 8 [some (pR 1)] [pR x1, pR 9] LY nx (h, r, s) Q ↔ Wp 97 9 [some (pR 1)] [pR 1, pR x1, pR 9] LY nx (h, r, s) Q)) ∧
  (∀ (x1 : Int) (nx : Nat) (h r : PF) (s : Int → Int) (Q : PO → PY → Nat → PC → Prop), WFr r → (Wp 97 9 [some (pR 1)] [pR 1, pR x1, pR 9] LY nx (h, r, s) Q ↔ Wp 97 12 [some (pR 1)] [pR 144, pR x1, pR 9] LY nx (h, r, s) Q)) ∧
  (∀ (x1 : Int) (nx : Nat) (h r : PF) (s : Int → Int) (Q : PO → PY → Nat → PC → Prop), (Wp 97 12 [some (pR 1)] [pR 144, pR x1, pR 9] LY nx (h, r, s) Q ↔ Wp 4 0 [some (pR 9), some (pR x1), some (pR 144), none] [] LY nx (h, r, s) (Kc 97 12 [some (pR 1)] 15 [] Q))) ∧
  (∀  (nx : Nat) (h r : PF) (s : Int → Int) (Q : PO → PY → Nat → PC → Prop), (Wp 97 15 [some (pR 1)] [] LY nx (h, r, s) Q ↔ Wp 97 16 [some (pR 1)] [pR 1] LY nx (h, r, s) Q)) ∧
  (∀  (nx : Nat) (h r : PF) (s : Int → Int) (Q : PO → PY → Nat → PC → Prop), WFr r → (Wp 97 16 [some (pR 1)] [pR 1] LY nx (h, r, s) Q ↔ Wp 97 19 [some (pR 1)] [pR 9] LY nx (h, r, s) Q)) ∧
  (∀  (nx : Nat) (h r : PF) (s : Int → Int) (Q : PO → PY → Nat → PC → Prop), (Wp 97 19 [some (pR 1)] [pR 9] LY nx (h, r, s) Q ↔ Wp 97 22 [some (pR 1)] [pI (h 9 5)] LY nx (h, r, s) Q)) ∧
  (∀ (x0 : Int) (nx : Nat) (h r : PF) (s : Int → Int) (Q : PO → PY → Nat → PC → Prop), (Wp 97 22 [some (pR 1)] [pI x0] LY nx (h, r, s) Q ↔ Q (Sum.inl (some (pI x0))) LY nx (h, r, s))) :=
  ⟨fun  nx h r s Q  => o_aload_n (by decide +kernel : pcode 97 0 = some (10, 0, 0, 0, 0)) rfl,
  fun  nx h r s Q hw => o_getR (h := (h, r, s)) (by decide +kernel : pcode 97 1 = some (57, 443, 7, 1, 19)) (by decide) (by decide +kernel) (hw _ (List.mem_of_getElem? (i := 1) rfl)) (by decide),
  fun  nx h r s Q  => o_aload_n (by decide +kernel : pcode 97 4 = some (10, 0, 0, 0, 0)) rfl,
  fun  nx h r s Q h9 => o_getR (h := (h, r, s)) (by decide +kernel : pcode 97 5 = some (57, 448, 7, 6, 50)) (by decide) (by decide +kernel) rfl h9,
  fun x1 nx h r s Q  => o_aload_n (by decide +kernel : pcode 97 8 = some (10, 0, 0, 0, 0)) rfl,
  fun x1 nx h r s Q hw => o_getR (h := (h, r, s)) (by decide +kernel : pcode 97 9 = some (57, 446, 7, 4, 40)) (by decide) (by decide +kernel) (hw _ (List.mem_of_getElem? (i := 4) rfl)) (by decide),
  fun x1 nx h r s Q  => o_ivV (s1 := [pR 144, pR x1]) (s2 := []) (o := 9) (by decide +kernel : pcode 97 12 = some (78, 4, 3, 483, 171)) rfl (Nat.le_of_ble_eq_true rfl) (by decide) (by decide +kernel) rfl rfl rfl,
  fun  nx h r s Q  => o_aload_n (by decide +kernel : pcode 97 15 = some (10, 0, 0, 0, 0)) rfl,
  fun  nx h r s Q hw => o_getR (h := (h, r, s)) (by decide +kernel : pcode 97 16 = some (57, 443, 7, 1, 19)) (by decide) (by decide +kernel) (hw _ (List.mem_of_getElem? (i := 1) rfl)) (by decide),
  fun  nx h r s Q  => o_getI (by decide +kernel : pcode 97 19 = some (55, 210, 0, 5, 184)) (by decide) (by decide +kernel),
  fun x0 nx h r s Q  => o_iret (by decide +kernel : pcode 97 22 = some (87, 0, 0, 0, 0))⟩
set_option maxHeartbeats 4000000 in
set_option maxRecDepth 10000 in
theorem st_X7_price :
  (∀  (nx : Nat) (h r : PF) (s : Int → Int) (Q : PO → PY → Nat → PC → Prop), (Wp 98 0 [some (pR 1)] [] LY nx (h, r, s) Q ↔ Wp 98 1 [some (pR 1)] [pR 1] LY nx (h, r, s) Q)) ∧
  (∀  (nx : Nat) (h r : PF) (s : Int → Int) (Q : PO → PY → Nat → PC → Prop), WFr r → (Wp 98 1 [some (pR 1)] [pR 1] LY nx (h, r, s) Q ↔ Wp 98 4 [some (pR 1)] [pR 9] LY nx (h, r, s) Q)) ∧
  (∀  (nx : Nat) (h r : PF) (s : Int → Int) (Q : PO → PY → Nat → PC → Prop), (Wp 98 4 [some (pR 1)] [pR 9] LY nx (h, r, s) Q ↔ Wp 98 5 [some (pR 1)] [pR 1, pR 9] LY nx (h, r, s) Q)) ∧
  (∀  (nx : Nat) (h r : PF) (s : Int → Int) (Q : PO → PY → Nat → PC → Prop), 0 < (r 1 6) → (Wp 98 5 [some (pR 1)] [pR 1, pR 9] LY nx (h, r, s) Q ↔ Wp 98 8 [some (pR 1)] [pR (r 1 6), pR 9] LY nx (h, r, s) Q)) ∧
  (∀ (x1 : Int) (nx : Nat) (h r : PF) (s : Int → Int) (Q : PO → PY → Nat → PC → Prop), (Wp 98 8 [some (pR 1)] [pR x1, pR 9] LY nx (h, r, s) Q ↔ Wp 98 9 [some (pR 1)] [pR 1, pR x1, pR 9] LY nx (h, r, s) Q)) ∧
  (∀ (x1 : Int) (nx : Nat) (h r : PF) (s : Int → Int) (Q : PO → PY → Nat → PC → Prop), WFr r → (Wp 98 9 [some (pR 1)] [pR 1, pR x1, pR 9] LY nx (h, r, s) Q ↔ Wp 98 12 [some (pR 1)] [pR 144, pR x1, pR 9] LY nx (h, r, s) Q)) ∧
  (∀ (x1 : Int) (nx : Nat) (h r : PF) (s : Int → Int) (Q : PO → PY → Nat → PC → Prop), (Wp 98 12 [some (pR 1)] [pR 144, pR x1, pR 9] LY nx (h, r, s) Q ↔ Wp 4 0 [some (pR 9), some (pR x1), some (pR 144), none] [] LY nx (h, r, s) (Kc 98 12 [some (pR 1)] 15 [] Q))) ∧
  (∀  (nx : Nat) (h r : PF) (s : Int → Int) (Q : PO → PY → Nat → PC → Prop), (Wp 98 15 [some (pR 1)] [] LY nx (h, r, s) Q ↔ Wp 98 16 [some (pR 1)] [pR 1] LY nx (h, r, s) Q)) ∧
  (∀  (nx : Nat) (h r : PF) (s : Int → Int) (Q : PO → PY → Nat → PC → Prop), WFr r → (Wp 98 16 [some (pR 1)] [pR 1] LY nx (h, r, s) Q ↔ Wp 98 19 [some (pR 1)] [pR 9] LY nx (h, r, s) Q)) ∧
  (∀  (nx : Nat) (h r : PF) (s : Int → Int) (Q : PO → PY → Nat → PC → Prop), (Wp 98 19 [some (pR 1)] [pR 9] LY nx (h, r, s) Q ↔ Wp 98 22 [some (pR 1)] [pI (h 9 6)] LY nx (h, r, s) Q)) ∧
  (∀ (x0 : Int) (nx : Nat) (h r : PF) (s : Int → Int) (Q : PO → PY → Nat → PC → Prop), (Wp 98 22 [some (pR 1)] [pI x0] LY nx (h, r, s) Q ↔ Q (Sum.inl (some (pI x0))) LY nx (h, r, s))) :=
  ⟨fun  nx h r s Q  => o_aload_n (by decide +kernel : pcode 98 0 = some (10, 0, 0, 0, 0)) rfl,
  fun  nx h r s Q hw => o_getR (h := (h, r, s)) (by decide +kernel : pcode 98 1 = some (57, 443, 7, 1, 19)) (by decide) (by decide +kernel) (hw _ (List.mem_of_getElem? (i := 1) rfl)) (by decide),
  fun  nx h r s Q  => o_aload_n (by decide +kernel : pcode 98 4 = some (10, 0, 0, 0, 0)) rfl,
  fun  nx h r s Q h9 => o_getR (h := (h, r, s)) (by decide +kernel : pcode 98 5 = some (57, 448, 7, 6, 50)) (by decide) (by decide +kernel) rfl h9,
  fun x1 nx h r s Q  => o_aload_n (by decide +kernel : pcode 98 8 = some (10, 0, 0, 0, 0)) rfl,
  fun x1 nx h r s Q hw => o_getR (h := (h, r, s)) (by decide +kernel : pcode 98 9 = some (57, 446, 7, 4, 40)) (by decide) (by decide +kernel) (hw _ (List.mem_of_getElem? (i := 4) rfl)) (by decide),
  fun x1 nx h r s Q  => o_ivV (s1 := [pR 144, pR x1]) (s2 := []) (o := 9) (by decide +kernel : pcode 98 12 = some (78, 4, 3, 483, 171)) rfl (Nat.le_of_ble_eq_true rfl) (by decide) (by decide +kernel) rfl rfl rfl,
  fun  nx h r s Q  => o_aload_n (by decide +kernel : pcode 98 15 = some (10, 0, 0, 0, 0)) rfl,
  fun  nx h r s Q hw => o_getR (h := (h, r, s)) (by decide +kernel : pcode 98 16 = some (57, 443, 7, 1, 19)) (by decide) (by decide +kernel) (hw _ (List.mem_of_getElem? (i := 1) rfl)) (by decide),
  fun  nx h r s Q  => o_getI (by decide +kernel : pcode 98 19 = some (55, 212, 0, 6, 187)) (by decide) (by decide +kernel),
  fun x0 nx h r s Q  => o_iret (by decide +kernel : pcode 98 22 = some (87, 0, 0, 0, 0))⟩
set_option maxHeartbeats 4000000 in
set_option maxRecDepth 10000 in
theorem st_X7_pays :
  (∀ (l1 : Int) (nx : Nat) (h r : PF) (s : Int → Int) (Q : PO → PY → Nat → PC → Prop), (Wp 99 0 [some (pR 1), some (pI l1)] [] LY nx (h, r, s) Q ↔ Wp 99 1 [some (pR 1), some (pI l1)] [pR 1] LY nx (h, r, s) Q)) ∧
  (∀ (l1 : Int) (nx : Nat) (h r : PF) (s : Int → Int) (Q : PO → PY → Nat → PC → Prop), (Wp 99 1 [some (pR 1), some (pI l1)] [pR 1] LY nx (h, r, s) Q ↔ Wp 99 2 [some (pR 1), some (pI l1)] [pI l1, pR 1] LY nx (h, r, s) Q)) ∧
  (∀ (l1 : Int) (x1 : Int) (nx : Nat) (h r : PF) (s : Int → Int) (Q : PO → PY → Nat → PC → Prop), (Wp 99 2 [some (pR 1), some (pI l1)] [pI x1, pR 1] LY nx (h, r, s) Q ↔ Wp 118 0 [some (pR 1), some (pI x1)] [] LY nx (h, r, s) (Kc 99 2 [some (pR 1), some (pI l1)] 5 [] Q))) ∧
  (∀ (l1 : Int) (nx : Nat) (h r : PF) (s : Int → Int) (Q : PO → PY → Nat → PC → Prop), (Wp 99 5 [some (pR 1), some (pI l1)] [] LY nx (h, r, s) Q ↔ Wp 99 6 [some (pR 1), some (pI l1)] [pR 1] LY nx (h, r, s) Q)) ∧
  (∀ (l1 : Int) (nx : Nat) (h r : PF) (s : Int → Int) (Q : PO → PY → Nat → PC → Prop), WFr r → (Wp 99 6 [some (pR 1), some (pI l1)] [pR 1] LY nx (h, r, s) Q ↔ Wp 99 9 [some (pR 1), some (pI l1)] [pR 9] LY nx (h, r, s) Q)) ∧
  (∀ (l1 : Int) (nx : Nat) (h r : PF) (s : Int → Int) (Q : PO → PY → Nat → PC → Prop), (Wp 99 9 [some (pR 1), some (pI l1)] [pR 9] LY nx (h, r, s) Q ↔ Wp 99 10 [some (pR 1), some (pI l1)] [pR 1, pR 9] LY nx (h, r, s) Q)) ∧
  (∀ (l1 : Int) (nx : Nat) (h r : PF) (s : Int → Int) (Q : PO → PY → Nat → PC → Prop), 0 < (r 1 6) → (Wp 99 10 [some (pR 1), some (pI l1)] [pR 1, pR 9] LY nx (h, r, s) Q ↔ Wp 99 13 [some (pR 1), some (pI l1)] [pR (r 1 6), pR 9] LY nx (h, r, s) Q)) ∧
  (∀ (l1 : Int) (x1 : Int) (nx : Nat) (h r : PF) (s : Int → Int) (Q : PO → PY → Nat → PC → Prop), (Wp 99 13 [some (pR 1), some (pI l1)] [pR x1, pR 9] LY nx (h, r, s) Q ↔ Wp 99 14 [some (pR 1), some (pI l1)] [pR 1, pR x1, pR 9] LY nx (h, r, s) Q)) ∧
  (∀ (l1 : Int) (x1 : Int) (nx : Nat) (h r : PF) (s : Int → Int) (Q : PO → PY → Nat → PC → Prop), WFr r → (Wp 99 14 [some (pR 1), some (pI l1)] [pR 1, pR x1, pR 9] LY nx (h, r, s) Q ↔ Wp 99 17 [some (pR 1), some (pI l1)] [pR 144, pR x1, pR 9] LY nx (h, r, s) Q)) ∧
  (∀ (l1 : Int) (x1 : Int) (nx : Nat) (h r : PF) (s : Int → Int) (Q : PO → PY → Nat → PC → Prop), (Wp 99 17 [some (pR 1), some (pI l1)] [pR 144, pR x1, pR 9] LY nx (h, r, s) Q ↔ Wp 4 0 [some (pR 9), some (pR x1), some (pR 144), none] [] LY nx (h, r, s) (Kc 99 17 [some (pR 1), some (pI l1)] 20 [] Q))) ∧
  (∀ (l1 : Int) (nx : Nat) (h r : PF) (s : Int → Int) (Q : PO → PY → Nat → PC → Prop), (Wp 99 20 [some (pR 1), some (pI l1)] [] LY nx (h, r, s) Q ↔ Wp 99 21 [some (pR 1), some (pI l1)] [pR 1] LY nx (h, r, s) Q)) ∧
  (∀ (l1 : Int) (nx : Nat) (h r : PF) (s : Int → Int) (Q : PO → PY → Nat → PC → Prop), WFr r → (Wp 99 21 [some (pR 1), some (pI l1)] [pR 1] LY nx (h, r, s) Q ↔ Wp 99 24 [some (pR 1), some (pI l1)] [pR 9] LY nx (h, r, s) Q)) ∧
  (∀ (l1 : Int) (nx : Nat) (h r : PF) (s : Int → Int) (Q : PO → PY → Nat → PC → Prop), WFr r → (Wp 99 24 [some (pR 1), some (pI l1)] [pR 9] LY nx (h, r, s) Q ↔ Wp 99 27 [some (pR 1), some (pI l1)] [pR 12] LY nx (h, r, s) Q)) ∧
  (∀ (l1 : Int) (nx : Nat) (h r : PF) (s : Int → Int) (Q : PO → PY → Nat → PC → Prop), (Wp 99 27 [some (pR 1), some (pI l1)] [pR 12] LY nx (h, r, s) Q ↔ Wp 99 28 [some (pR 1), some (pI l1)] [pI l1, pR 12] LY nx (h, r, s) Q)) ∧
  (∀ (l1 : Int) (x1 : Int) (nx : Nat) (h r : PF) (s : Int → Int) (Q : PO → PY → Nat → PC → Prop), 0 ≤ x1 → x1 < 4 → (Wp 99 28 [some (pR 1), some (pI l1)] [pI x1, pR 12] LY nx (h, r, s) Q ↔ Wp 99 29 [some (pR 1), some (pI l1)] [pI (h 12 x1)] LY nx (h, r, s) Q)) ∧
  (∀ (l1 : Int) (x0 : Int) (nx : Nat) (h r : PF) (s : Int → Int) (Q : PO → PY → Nat → PC → Prop), (Wp 99 29 [some (pR 1), some (pI l1)] [pI x0] LY nx (h, r, s) Q ↔ Q (Sum.inl (some (pI x0))) LY nx (h, r, s))) :=
  ⟨fun l1 nx h r s Q  => o_aload_n (by decide +kernel : pcode 99 0 = some (10, 0, 0, 0, 0)) rfl,
  fun l1 nx h r s Q  => o_iload_n (by decide +kernel : pcode 99 1 = some (6, 1, 0, 0, 0)) rfl,
  fun l1 x1 nx h r s Q  => o_ivV (s1 := [pI x1]) (s2 := []) (o := 1) (by decide +kernel : pcode 99 2 = some (78, 118, 2, 816, 116)) rfl (Nat.le_of_ble_eq_true rfl) (by decide) (by decide +kernel) rfl rfl rfl,
  fun l1 nx h r s Q  => o_aload_n (by decide +kernel : pcode 99 5 = some (10, 0, 0, 0, 0)) rfl,
  fun l1 nx h r s Q hw => o_getR (h := (h, r, s)) (by decide +kernel : pcode 99 6 = some (57, 443, 7, 1, 19)) (by decide) (by decide +kernel) (hw _ (List.mem_of_getElem? (i := 1) rfl)) (by decide),
  fun l1 nx h r s Q  => o_aload_n (by decide +kernel : pcode 99 9 = some (10, 0, 0, 0, 0)) rfl,
  fun l1 nx h r s Q h9 => o_getR (h := (h, r, s)) (by decide +kernel : pcode 99 10 = some (57, 448, 7, 6, 50)) (by decide) (by decide +kernel) rfl h9,
  fun l1 x1 nx h r s Q  => o_aload_n (by decide +kernel : pcode 99 13 = some (10, 0, 0, 0, 0)) rfl,
  fun l1 x1 nx h r s Q hw => o_getR (h := (h, r, s)) (by decide +kernel : pcode 99 14 = some (57, 446, 7, 4, 40)) (by decide) (by decide +kernel) (hw _ (List.mem_of_getElem? (i := 4) rfl)) (by decide),
  fun l1 x1 nx h r s Q  => o_ivV (s1 := [pR 144, pR x1]) (s2 := []) (o := 9) (by decide +kernel : pcode 99 17 = some (78, 4, 3, 483, 171)) rfl (Nat.le_of_ble_eq_true rfl) (by decide) (by decide +kernel) rfl rfl rfl,
  fun l1 nx h r s Q  => o_aload_n (by decide +kernel : pcode 99 20 = some (10, 0, 0, 0, 0)) rfl,
  fun l1 nx h r s Q hw => o_getR (h := (h, r, s)) (by decide +kernel : pcode 99 21 = some (57, 443, 7, 1, 19)) (by decide) (by decide +kernel) (hw _ (List.mem_of_getElem? (i := 1) rfl)) (by decide),
  fun l1 nx h r s Q hw => o_getR (h := (h, r, s)) (by decide +kernel : pcode 99 24 = some (57, 204, 0, 2, 190)) (by decide) (by decide +kernel) (hw _ (List.mem_of_getElem? (i := 14) rfl)) (by decide),
  fun l1 nx h r s Q  => o_iload_n (by decide +kernel : pcode 99 27 = some (6, 1, 0, 0, 0)) rfl,
  fun l1 x1 nx h r s Q hi hn => o_iald (h := (h, r, s)) (n := 4) (by decide +kernel : pcode 99 28 = some (63, 0, 0, 0, 0)) (by decide) (by decide +kernel) hi hn,
  fun l1 x0 nx h r s Q  => o_iret (by decide +kernel : pcode 99 29 = some (87, 0, 0, 0, 0))⟩
set_option maxHeartbeats 4000000 in
set_option maxRecDepth 10000 in
theorem st_X7_coinsAfter :
  (∀ (l1 : Int) (l2 : Int) (nx : Nat) (h r : PF) (s : Int → Int) (Q : PO → PY → Nat → PC → Prop), (Wp 100 0 [some (pR 1), some (pI l1), some (pI l2)] [] LY nx (h, r, s) Q ↔ Wp 100 1 [some (pR 1), some (pI l1), some (pI l2)] [pR 1] LY nx (h, r, s) Q)) ∧
  (∀ (l1 : Int) (l2 : Int) (nx : Nat) (h r : PF) (s : Int → Int) (Q : PO → PY → Nat → PC → Prop), (Wp 100 1 [some (pR 1), some (pI l1), some (pI l2)] [pR 1] LY nx (h, r, s) Q ↔ Wp 100 2 [some (pR 1), some (pI l1), some (pI l2)] [pI l1, pR 1] LY nx (h, r, s) Q)) ∧
  (∀ (l1 : Int) (l2 : Int) (x1 : Int) (nx : Nat) (h r : PF) (s : Int → Int) (Q : PO → PY → Nat → PC → Prop), (Wp 100 2 [some (pR 1), some (pI l1), some (pI l2)] [pI x1, pR 1] LY nx (h, r, s) Q ↔ Wp 118 0 [some (pR 1), some (pI x1)] [] LY nx (h, r, s) (Kc 100 2 [some (pR 1), some (pI l1), some (pI l2)] 5 [] Q))) ∧
  (∀ (l1 : Int) (l2 : Int) (nx : Nat) (h r : PF) (s : Int → Int) (Q : PO → PY → Nat → PC → Prop), (Wp 100 5 [some (pR 1), some (pI l1), some (pI l2)] [] LY nx (h, r, s) Q ↔ Wp 100 6 [some (pR 1), some (pI l1), some (pI l2)] [pI l2] LY nx (h, r, s) Q)) ∧
  (∀ (l1 : Int) (l2 : Int) (x0 : Int) (nx : Nat) (h r : PF) (s : Int → Int) (Q : PO → PY → Nat → PC → Prop), (Wp 100 6 [some (pR 1), some (pI l1), some (pI l2)] [pI x0] LY nx (h, r, s) Q ↔ Wp 100 7 [some (pR 1), some (pI l1), some (pI l2)] [pI 1, pI x0] LY nx (h, r, s) Q)) ∧
  (∀ (l1 : Int) (l2 : Int) (x0 : Int) (x1 : Int) (nx : Nat) (h r : PF) (s : Int → Int) (Q : PO → PY → Nat → PC → Prop), (Wp 100 7 [some (pR 1), some (pI l1), some (pI l2)] [pI x1, pI x0] LY nx (h, r, s) Q ↔ Wp 100 9 [some (pR 1), some (pI l1), some (pI l2)] [pI 20, pI x1, pI x0] LY nx (h, r, s) Q)) ∧
  (∀ (l1 : Int) (l2 : Int) (x0 : Int) (x1 : Int) (x2 : Int) (nx : Nat) (h r : PF) (s : Int → Int) (Q : PO → PY → Nat → PC → Prop), (Wp 100 9 [some (pR 1), some (pI l1), some (pI l2)] [pI x2, pI x1, pI x0] LY nx (h, r, s) Q ↔ Wp 123 0 [some (pI x0), some (pI x1), some (pI x2)] [] LY nx (h, r, s) (Kc 100 9 [some (pR 1), some (pI l1), some (pI l2)] 12 [] Q))) ∧
  (∀ (l1 : Int) (l2 : Int) (nx : Nat) (h r : PF) (s : Int → Int) (Q : PO → PY → Nat → PC → Prop), (Wp 100 12 [some (pR 1), some (pI l1), some (pI l2)] [] LY nx (h, r, s) Q ↔ Wp 100 13 [some (pR 1), some (pI l1), some (pI l2)] [pR 1] LY nx (h, r, s) Q)) ∧
  (∀ (l1 : Int) (l2 : Int) (nx : Nat) (h r : PF) (s : Int → Int) (Q : PO → PY → Nat → PC → Prop), WFr r → (Wp 100 13 [some (pR 1), some (pI l1), some (pI l2)] [pR 1] LY nx (h, r, s) Q ↔ Wp 100 16 [some (pR 1), some (pI l1), some (pI l2)] [pR 154] LY nx (h, r, s) Q)) ∧
  (∀ (l1 : Int) (l2 : Int) (nx : Nat) (h r : PF) (s : Int → Int) (Q : PO → PY → Nat → PC → Prop), (Wp 100 16 [some (pR 1), some (pI l1), some (pI l2)] [pR 154] LY nx (h, r, s) Q ↔ Wp 100 17 [some (pR 1), some (pI l1), some (pI l2)] [pR 1, pR 154] LY nx (h, r, s) Q)) ∧
  (∀ (l1 : Int) (l2 : Int) (nx : Nat) (h r : PF) (s : Int → Int) (Q : PO → PY → Nat → PC → Prop), WFr r → (Wp 100 17 [some (pR 1), some (pI l1), some (pI l2)] [pR 1, pR 154] LY nx (h, r, s) Q ↔ Wp 100 20 [some (pR 1), some (pI l1), some (pI l2)] [pR 144, pR 154] LY nx (h, r, s) Q)) ∧
  (∀ (l1 : Int) (l2 : Int) (nx : Nat) (h r : PF) (s : Int → Int) (Q : PO → PY → Nat → PC → Prop), (Wp 100 20 [some (pR 1), some (pI l1), some (pI l2)] [pR 144, pR 154] LY nx (h, r, s) Q ↔ Wp 55 0 [some (pR 154), some (pR 144)] [] LY nx (h, r, s) (Kc 100 20 [some (pR 1), some (pI l1), some (pI l2)] 23 [] Q))) ∧
  (∀ (l1 : Int) (l2 : Int) (nx : Nat) (h r : PF) (s : Int → Int) (Q : PO → PY → Nat → PC → Prop), (Wp 100 23 [some (pR 1), some (pI l1), some (pI l2)] [] LY nx (h, r, s) Q ↔ Wp 100 24 [some (pR 1), some (pI l1), some (pI l2)] [pR 1] LY nx (h, r, s) Q)) ∧
  (∀ (l1 : Int) (l2 : Int) (nx : Nat) (h r : PF) (s : Int → Int) (Q : PO → PY → Nat → PC → Prop), WFr r → (Wp 100 24 [some (pR 1), some (pI l1), some (pI l2)] [pR 1] LY nx (h, r, s) Q ↔ Wp 100 27 [some (pR 1), some (pI l1), some (pI l2)] [pR 9] LY nx (h, r, s) Q)) ∧
  (∀ (l1 : Int) (l2 : Int) (nx : Nat) (h r : PF) (s : Int → Int) (Q : PO → PY → Nat → PC → Prop), (Wp 100 27 [some (pR 1), some (pI l1), some (pI l2)] [pR 9] LY nx (h, r, s) Q ↔ Wp 100 28 [some (pR 1), some (pI l1), some (pI l2)] [pR 1, pR 9] LY nx (h, r, s) Q)) ∧
  (∀ (l1 : Int) (l2 : Int) (nx : Nat) (h r : PF) (s : Int → Int) (Q : PO → PY → Nat → PC → Prop), 0 < (r 1 6) → (Wp 100 28 [some (pR 1), some (pI l1), some (pI l2)] [pR 1, pR 9] LY nx (h, r, s) Q ↔ Wp 100 31 [some (pR 1), some (pI l1), some (pI l2)] [pR (r 1 6), pR 9] LY nx (h, r, s) Q)) ∧
  (∀ (l1 : Int) (l2 : Int) (x1 : Int) (nx : Nat) (h r : PF) (s : Int → Int) (Q : PO → PY → Nat → PC → Prop), (Wp 100 31 [some (pR 1), some (pI l1), some (pI l2)] [pR x1, pR 9] LY nx (h, r, s) Q ↔ Wp 100 32 [some (pR 1), some (pI l1), some (pI l2)] [pR 1, pR x1, pR 9] LY nx (h, r, s) Q)) ∧
  (∀ (l1 : Int) (l2 : Int) (x1 : Int) (nx : Nat) (h r : PF) (s : Int → Int) (Q : PO → PY → Nat → PC → Prop), WFr r → (Wp 100 32 [some (pR 1), some (pI l1), some (pI l2)] [pR 1, pR x1, pR 9] LY nx (h, r, s) Q ↔ Wp 100 35 [some (pR 1), some (pI l1), some (pI l2)] [pR 154, pR x1, pR 9] LY nx (h, r, s) Q)) ∧
  (∀ (l1 : Int) (l2 : Int) (x1 : Int) (nx : Nat) (h r : PF) (s : Int → Int) (Q : PO → PY → Nat → PC → Prop), (Wp 100 35 [some (pR 1), some (pI l1), some (pI l2)] [pR 154, pR x1, pR 9] LY nx (h, r, s) Q ↔ Wp 100 36 [some (pR 1), some (pI l1), some (pI l2)] [pI l2, pR 154, pR x1, pR 9] LY nx (h, r, s) Q)) ∧
  (∀ (l1 : Int) (l2 : Int) (x1 : Int) (x3 : Int) (nx : Nat) (h r : PF) (s : Int → Int) (Q : PO → PY → Nat → PC → Prop), (Wp 100 36 [some (pR 1), some (pI l1), some (pI l2)] [pI x3, pR 154, pR x1, pR 9] LY nx (h, r, s) Q ↔ Wp 9 0 [some (pR 9), some (pR x1), some (pR 154), some (pI x3), none, none] [] LY nx (h, r, s) (Kc 100 36 [some (pR 1), some (pI l1), some (pI l2)] 39 [] Q))) ∧
  (∀ (l1 : Int) (l2 : Int) (x0 : Int) (nx : Nat) (h r : PF) (s : Int → Int) (Q : PO → PY → Nat → PC → Prop), (Wp 100 39 [some (pR 1), some (pI l1), some (pI l2)] [pI x0] LY nx (h, r, s) Q ↔ Wp 100 40 [some (pR 1), some (pI l1), some (pI l2)] [] LY nx (h, r, s) Q)) ∧
  (∀ (l1 : Int) (l2 : Int) (nx : Nat) (h r : PF) (s : Int → Int) (Q : PO → PY → Nat → PC → Prop), (Wp 100 40 [some (pR 1), some (pI l1), some (pI l2)] [] LY nx (h, r, s) Q ↔ Wp 100 41 [some (pR 1), some (pI l1), some (pI l2)] [pR 1] LY nx (h, r, s) Q)) ∧
  (∀ (l1 : Int) (l2 : Int) (nx : Nat) (h r : PF) (s : Int → Int) (Q : PO → PY → Nat → PC → Prop), WFr r → (Wp 100 41 [some (pR 1), some (pI l1), some (pI l2)] [pR 1] LY nx (h, r, s) Q ↔ Wp 100 44 [some (pR 1), some (pI l1), some (pI l2)] [pR 154] LY nx (h, r, s) Q)) ∧
  (∀ (l1 : Int) (l2 : Int) (nx : Nat) (h r : PF) (s : Int → Int) (Q : PO → PY → Nat → PC → Prop), WFr r → (Wp 100 44 [some (pR 1), some (pI l1), some (pI l2)] [pR 154] LY nx (h, r, s) Q ↔ Wp 100 47 [some (pR 1), some (pI l1), some (pI l2)] [pR 156] LY nx (h, r, s) Q)) ∧
  (∀ (l1 : Int) (l2 : Int) (nx : Nat) (h r : PF) (s : Int → Int) (Q : PO → PY → Nat → PC → Prop), (Wp 100 47 [some (pR 1), some (pI l1), some (pI l2)] [pR 156] LY nx (h, r, s) Q ↔ Wp 100 48 [some (pR 1), some (pI l1), some (pI l2)] [pI l1, pR 156] LY nx (h, r, s) Q)) ∧
  (∀ (l1 : Int) (l2 : Int) (x1 : Int) (nx : Nat) (h r : PF) (s : Int → Int) (Q : PO → PY → Nat → PC → Prop), 0 ≤ x1 → x1 < 4 → (Wp 100 48 [some (pR 1), some (pI l1), some (pI l2)] [pI x1, pR 156] LY nx (h, r, s) Q ↔ Wp 100 49 [some (pR 1), some (pI l1), some (pI l2)] [pI (h 156 x1)] LY nx (h, r, s) Q)) ∧
  (∀ (l1 : Int) (l2 : Int) (x0 : Int) (nx : Nat) (h r : PF) (s : Int → Int) (Q : PO → PY → Nat → PC → Prop), (Wp 100 49 [some (pR 1), some (pI l1), some (pI l2)] [pI x0] LY nx (h, r, s) Q ↔ Q (Sum.inl (some (pI x0))) LY nx (h, r, s))) :=
  ⟨fun l1 l2 nx h r s Q  => o_aload_n (by decide +kernel : pcode 100 0 = some (10, 0, 0, 0, 0)) rfl,
  fun l1 l2 nx h r s Q  => o_iload_n (by decide +kernel : pcode 100 1 = some (6, 1, 0, 0, 0)) rfl,
  fun l1 l2 x1 nx h r s Q  => o_ivV (s1 := [pI x1]) (s2 := []) (o := 1) (by decide +kernel : pcode 100 2 = some (78, 118, 2, 816, 116)) rfl (Nat.le_of_ble_eq_true rfl) (by decide) (by decide +kernel) rfl rfl rfl,
  fun l1 l2 nx h r s Q  => o_iload_n (by decide +kernel : pcode 100 5 = some (6, 2, 0, 0, 0)) rfl,
  fun l1 l2 x0 nx h r s Q  => o_iconst (by decide +kernel : pcode 100 6 = some (1, 0, 0, 0, 1)),
  fun l1 l2 x0 x1 nx h r s Q  => o_bipush (by decide +kernel : pcode 100 7 = some (2, 0, 0, 0, 20)),
  fun l1 l2 x0 x1 x2 nx h r s Q  => o_ivS (s1 := [pI x2, pI x1, pI x0]) (s2 := []) (by decide +kernel : pcode 100 9 = some (77, 123, 3, 573, 69)) rfl (Nat.le_of_ble_eq_true rfl) rfl rfl rfl,
  fun l1 l2 nx h r s Q  => o_aload_n (by decide +kernel : pcode 100 12 = some (10, 0, 0, 0, 0)) rfl,
  fun l1 l2 nx h r s Q hw => o_getR (h := (h, r, s)) (by decide +kernel : pcode 100 13 = some (57, 447, 7, 5, 44)) (by decide) (by decide +kernel) (hw _ (List.mem_of_getElem? (i := 5) rfl)) (by decide),
  fun l1 l2 nx h r s Q  => o_aload_n (by decide +kernel : pcode 100 16 = some (10, 0, 0, 0, 0)) rfl,
  fun l1 l2 nx h r s Q hw => o_getR (h := (h, r, s)) (by decide +kernel : pcode 100 17 = some (57, 446, 7, 4, 40)) (by decide) (by decide +kernel) (hw _ (List.mem_of_getElem? (i := 4) rfl)) (by decide),
  fun l1 l2 nx h r s Q  => o_ivV (s1 := [pR 144]) (s2 := []) (o := 154) (by decide +kernel : pcode 100 20 = some (78, 55, 2, 924, 193)) rfl (Nat.le_of_ble_eq_true rfl) (by decide) (by decide +kernel) rfl rfl rfl,
  fun l1 l2 nx h r s Q  => o_aload_n (by decide +kernel : pcode 100 23 = some (10, 0, 0, 0, 0)) rfl,
  fun l1 l2 nx h r s Q hw => o_getR (h := (h, r, s)) (by decide +kernel : pcode 100 24 = some (57, 443, 7, 1, 19)) (by decide) (by decide +kernel) (hw _ (List.mem_of_getElem? (i := 1) rfl)) (by decide),
  fun l1 l2 nx h r s Q  => o_aload_n (by decide +kernel : pcode 100 27 = some (10, 0, 0, 0, 0)) rfl,
  fun l1 l2 nx h r s Q h9 => o_getR (h := (h, r, s)) (by decide +kernel : pcode 100 28 = some (57, 448, 7, 6, 50)) (by decide) (by decide +kernel) rfl h9,
  fun l1 l2 x1 nx h r s Q  => o_aload_n (by decide +kernel : pcode 100 31 = some (10, 0, 0, 0, 0)) rfl,
  fun l1 l2 x1 nx h r s Q hw => o_getR (h := (h, r, s)) (by decide +kernel : pcode 100 32 = some (57, 447, 7, 5, 44)) (by decide) (by decide +kernel) (hw _ (List.mem_of_getElem? (i := 5) rfl)) (by decide),
  fun l1 l2 x1 nx h r s Q  => o_iload_n (by decide +kernel : pcode 100 35 = some (6, 2, 0, 0, 0)) rfl,
  fun l1 l2 x1 x3 nx h r s Q  => o_ivV (s1 := [pI x3, pR 154, pR x1]) (s2 := []) (o := 9) (by decide +kernel : pcode 100 36 = some (78, 9, 4, 925, 197)) rfl (Nat.le_of_ble_eq_true rfl) (by decide) (by decide +kernel) rfl rfl rfl,
  fun l1 l2 x0 nx h r s Q  => o_pop (by decide +kernel : pcode 100 39 = some (40, 0, 0, 0, 0)) rfl,
  fun l1 l2 nx h r s Q  => o_aload_n (by decide +kernel : pcode 100 40 = some (10, 0, 0, 0, 0)) rfl,
  fun l1 l2 nx h r s Q hw => o_getR (h := (h, r, s)) (by decide +kernel : pcode 100 41 = some (57, 447, 7, 5, 44)) (by decide) (by decide +kernel) (hw _ (List.mem_of_getElem? (i := 5) rfl)) (by decide),
  fun l1 l2 nx h r s Q hw => o_getR (h := (h, r, s)) (by decide +kernel : pcode 100 44 = some (57, 280, 5, 1, 123)) (by decide) (by decide +kernel) (hw _ (List.mem_of_getElem? (i := 152) rfl)) (by decide),
  fun l1 l2 nx h r s Q  => o_iload_n (by decide +kernel : pcode 100 47 = some (6, 1, 0, 0, 0)) rfl,
  fun l1 l2 x1 nx h r s Q hi hn => o_iald (h := (h, r, s)) (n := 4) (by decide +kernel : pcode 100 48 = some (63, 0, 0, 0, 0)) (by decide) (by decide +kernel) hi hn,
  fun l1 l2 x0 nx h r s Q  => o_iret (by decide +kernel : pcode 100 49 = some (87, 0, 0, 0, 0))⟩
set_option maxHeartbeats 4000000 in
set_option maxRecDepth 10000 in
theorem st_X7_letter :
  (∀ (l1 : Int) (nx : Nat) (h r : PF) (s : Int → Int) (Q : PO → PY → Nat → PC → Prop), (Wp 101 0 [some (pR 1), some (pI l1)] [] LY nx (h, r, s) Q ↔ Wp 101 1 [some (pR 1), some (pI l1)] [pI l1] LY nx (h, r, s) Q)) ∧
  (∀ (l1 : Int) (x0 : Int) (nx : Nat) (h r : PF) (s : Int → Int) (Q : PO → PY → Nat → PC → Prop), (Wp 101 1 [some (pR 1), some (pI l1)] [pI x0] LY nx (h, r, s) Q ↔ (if x0 < 0 then Wp 101 27 [some (pR 1), some (pI l1)] [] LY nx (h, r, s) Q else Wp 101 4 [some (pR 1), some (pI l1)] [] LY nx (h, r, s) Q))) ∧
  (∀ (l1 : Int) (nx : Nat) (h r : PF) (s : Int → Int) (Q : PO → PY → Nat → PC → Prop), (Wp 101 4 [some (pR 1), some (pI l1)] [] LY nx (h, r, s) Q ↔ Wp 101 5 [some (pR 1), some (pI l1)] [pI l1] LY nx (h, r, s) Q)) ∧
  (∀ (l1 : Int) (x0 : Int) (nx : Nat) (h r : PF) (s : Int → Int) (Q : PO → PY → Nat → PC → Prop), (Wp 101 5 [some (pR 1), some (pI l1)] [pI x0] LY nx (h, r, s) Q ↔ Wp 101 6 [some (pR 1), some (pI l1)] [pR 1, pI x0] LY nx (h, r, s) Q)) ∧
  (∀ (l1 : Int) (x0 : Int) (nx : Nat) (h r : PF) (s : Int → Int) (Q : PO → PY → Nat → PC → Prop), WFr r → (Wp 101 6 [some (pR 1), some (pI l1)] [pR 1, pI x0] LY nx (h, r, s) Q ↔ Wp 101 9 [some (pR 1), some (pI l1)] [pR 144, pI x0] LY nx (h, r, s) Q)) ∧
  (∀ (l1 : Int) (x0 : Int) (nx : Nat) (h r : PF) (s : Int → Int) (Q : PO → PY → Nat → PC → Prop), (Wp 101 9 [some (pR 1), some (pI l1)] [pR 144, pI x0] LY nx (h, r, s) Q ↔ Wp 101 12 [some (pR 1), some (pI l1)] [pI (h 144 8), pI x0] LY nx (h, r, s) Q)) ∧
  (∀ (l1 : Int) (x0 : Int) (x1 : Int) (nx : Nat) (h r : PF) (s : Int → Int) (Q : PO → PY → Nat → PC → Prop), (Wp 101 12 [some (pR 1), some (pI l1)] [pI x1, pI x0] LY nx (h, r, s) Q ↔ (if x1 ≤ x0 then Wp 101 27 [some (pR 1), some (pI l1)] [] LY nx (h, r, s) Q else Wp 101 15 [some (pR 1), some (pI l1)] [] LY nx (h, r, s) Q))) ∧
  (∀ (l1 : Int) (nx : Nat) (h r : PF) (s : Int → Int) (Q : PO → PY → Nat → PC → Prop), (Wp 101 15 [some (pR 1), some (pI l1)] [] LY nx (h, r, s) Q ↔ Wp 101 16 [some (pR 1), some (pI l1)] [pR 1] LY nx (h, r, s) Q)) ∧
  (∀ (l1 : Int) (nx : Nat) (h r : PF) (s : Int → Int) (Q : PO → PY → Nat → PC → Prop), WFr r → (Wp 101 16 [some (pR 1), some (pI l1)] [pR 1] LY nx (h, r, s) Q ↔ Wp 101 19 [some (pR 1), some (pI l1)] [pR 144] LY nx (h, r, s) Q)) ∧
  (∀ (l1 : Int) (nx : Nat) (h r : PF) (s : Int → Int) (Q : PO → PY → Nat → PC → Prop), WFr r → (Wp 101 19 [some (pR 1), some (pI l1)] [pR 144] LY nx (h, r, s) Q ↔ Wp 101 22 [some (pR 1), some (pI l1)] [pR 151] LY nx (h, r, s) Q)) ∧
  (∀ (l1 : Int) (nx : Nat) (h r : PF) (s : Int → Int) (Q : PO → PY → Nat → PC → Prop), (Wp 101 22 [some (pR 1), some (pI l1)] [pR 151] LY nx (h, r, s) Q ↔ Wp 101 23 [some (pR 1), some (pI l1)] [pI l1, pR 151] LY nx (h, r, s) Q)) ∧
  (∀ (l1 : Int) (x1 : Int) (nx : Nat) (h r : PF) (s : Int → Int) (Q : PO → PY → Nat → PC → Prop), 0 ≤ x1 → x1 < 60 → (Wp 101 23 [some (pR 1), some (pI l1)] [pI x1, pR 151] LY nx (h, r, s) Q ↔ Wp 101 24 [some (pR 1), some (pI l1)] [pI (h 151 x1)] LY nx (h, r, s) Q)) ∧
  (∀ (l1 : Int) (x0 : Int) (nx : Nat) (h r : PF) (s : Int → Int) (Q : PO → PY → Nat → PC → Prop), (Wp 101 24 [some (pR 1), some (pI l1)] [pI x0] LY nx (h, r, s) Q ↔ Wp 101 28 [some (pR 1), some (pI l1)] [pI x0] LY nx (h, r, s) Q)) ∧
  (∀ (l1 : Int) (nx : Nat) (h r : PF) (s : Int → Int) (Q : PO → PY → Nat → PC → Prop), (Wp 101 27 [some (pR 1), some (pI l1)] [] LY nx (h, r, s) Q ↔ Wp 101 28 [some (pR 1), some (pI l1)] [pI (-1)] LY nx (h, r, s) Q)) ∧
  (∀ (l1 : Int) (x0 : Int) (nx : Nat) (h r : PF) (s : Int → Int) (Q : PO → PY → Nat → PC → Prop), (Wp 101 28 [some (pR 1), some (pI l1)] [pI x0] LY nx (h, r, s) Q ↔ Q (Sum.inl (some (pI x0))) LY nx (h, r, s))) :=
  ⟨fun l1 nx h r s Q  => o_iload_n (by decide +kernel : pcode 101 0 = some (6, 1, 0, 0, 0)) rfl,
  fun l1 x0 nx h r s Q  => o_if_lt (by decide +kernel : pcode 101 1 = some (43, 27, 0, 0, 26)),
  fun l1 nx h r s Q  => o_iload_n (by decide +kernel : pcode 101 4 = some (6, 1, 0, 0, 0)) rfl,
  fun l1 x0 nx h r s Q  => o_aload_n (by decide +kernel : pcode 101 5 = some (10, 0, 0, 0, 0)) rfl,
  fun l1 x0 nx h r s Q hw => o_getR (h := (h, r, s)) (by decide +kernel : pcode 101 6 = some (57, 446, 7, 4, 40)) (by decide) (by decide +kernel) (hw _ (List.mem_of_getElem? (i := 4) rfl)) (by decide),
  fun l1 x0 nx h r s Q  => o_getI (by decide +kernel : pcode 101 9 = some (55, 296, 5, 8, 92)) (by decide) (by decide +kernel),
  fun l1 x0 x1 nx h r s Q  => o_icmp_ge (by decide +kernel : pcode 101 12 = some (50, 27, 0, 0, 15)),
  fun l1 nx h r s Q  => o_aload_n (by decide +kernel : pcode 101 15 = some (10, 0, 0, 0, 0)) rfl,
  fun l1 nx h r s Q hw => o_getR (h := (h, r, s)) (by decide +kernel : pcode 101 16 = some (57, 446, 7, 4, 40)) (by decide) (by decide +kernel) (hw _ (List.mem_of_getElem? (i := 4) rfl)) (by decide),
  fun l1 nx h r s Q hw => o_getR (h := (h, r, s)) (by decide +kernel : pcode 101 19 = some (57, 291, 5, 6, 201)) (by decide) (by decide +kernel) (hw _ (List.mem_of_getElem? (i := 148) rfl)) (by decide),
  fun l1 nx h r s Q  => o_iload_n (by decide +kernel : pcode 101 22 = some (6, 1, 0, 0, 0)) rfl,
  fun l1 x1 nx h r s Q hi hn => o_iald (h := (h, r, s)) (n := 60) (by decide +kernel : pcode 101 23 = some (63, 0, 0, 0, 0)) (by decide) (by decide +kernel) hi hn,
  fun l1 x0 nx h r s Q  => o_goto (by decide +kernel : pcode 101 24 = some (53, 28, 0, 0, 4)),
  fun l1 nx h r s Q  => o_iconst (by decide +kernel : pcode 101 27 = some (1, 0, 0, 0, -1)),
  fun l1 x0 nx h r s Q  => o_iret (by decide +kernel : pcode 101 28 = some (87, 0, 0, 0, 0))⟩
set_option maxHeartbeats 4000000 in
set_option maxRecDepth 10000 in
theorem st_X7_accepts :
  (∀ (l1 : Int) (nx : Nat) (h r : PF) (s : Int → Int) (Q : PO → PY → Nat → PC → Prop), (Wp 102 0 [some (pR 1), some (pI l1)] [] LY nx (h, r, s) Q ↔ Wp 102 1 [some (pR 1), some (pI l1)] [pR 1] LY nx (h, r, s) Q)) ∧
  (∀ (l1 : Int) (nx : Nat) (h r : PF) (s : Int → Int) (Q : PO → PY → Nat → PC → Prop), (Wp 102 1 [some (pR 1), some (pI l1)] [pR 1] LY nx (h, r, s) Q ↔ Wp 102 2 [some (pR 1), some (pI l1)] [pI l1, pR 1] LY nx (h, r, s) Q)) ∧
  (∀ (l1 : Int) (x1 : Int) (nx : Nat) (h r : PF) (s : Int → Int) (Q : PO → PY → Nat → PC → Prop), (Wp 102 2 [some (pR 1), some (pI l1)] [pI x1, pR 1] LY nx (h, r, s) Q ↔ Wp 118 0 [some (pR 1), some (pI x1)] [] LY nx (h, r, s) (Kc 102 2 [some (pR 1), some (pI l1)] 5 [] Q))) ∧
  (∀ (l1 : Int) (nx : Nat) (h r : PF) (s : Int → Int) (Q : PO → PY → Nat → PC → Prop), (Wp 102 5 [some (pR 1), some (pI l1)] [] LY nx (h, r, s) Q ↔ Wp 102 6 [some (pR 1), some (pI l1)] [pR 1] LY nx (h, r, s) Q)) ∧
  (∀ (l1 : Int) (nx : Nat) (h r : PF) (s : Int → Int) (Q : PO → PY → Nat → PC → Prop), WFr r → (Wp 102 6 [some (pR 1), some (pI l1)] [pR 1] LY nx (h, r, s) Q ↔ Wp 102 9 [some (pR 1), some (pI l1)] [pR 144] LY nx (h, r, s) Q)) ∧
  (∀ (l1 : Int) (nx : Nat) (h r : PF) (s : Int → Int) (Q : PO → PY → Nat → PC → Prop), (Wp 102 9 [some (pR 1), some (pI l1)] [pR 144] LY nx (h, r, s) Q ↔ Wp 102 10 [some (pR 1), some (pI l1)] [pR 1, pR 144] LY nx (h, r, s) Q)) ∧
  (∀ (l1 : Int) (nx : Nat) (h r : PF) (s : Int → Int) (Q : PO → PY → Nat → PC → Prop), 0 < (r 1 6) → (Wp 102 10 [some (pR 1), some (pI l1)] [pR 1, pR 144] LY nx (h, r, s) Q ↔ Wp 102 13 [some (pR 1), some (pI l1)] [pR (r 1 6), pR 144] LY nx (h, r, s) Q)) ∧
  (∀ (l1 : Int) (x1 : Int) (nx : Nat) (h r : PF) (s : Int → Int) (Q : PO → PY → Nat → PC → Prop), (Wp 102 13 [some (pR 1), some (pI l1)] [pR x1, pR 144] LY nx (h, r, s) Q ↔ Wp 102 14 [some (pR 1), some (pI l1)] [pI l1, pR x1, pR 144] LY nx (h, r, s) Q)) ∧
  (∀ (l1 : Int) (x1 : Int) (x2 : Int) (nx : Nat) (h r : PF) (s : Int → Int) (Q : PO → PY → Nat → PC → Prop), (Wp 102 14 [some (pR 1), some (pI l1)] [pI x2, pR x1, pR 144] LY nx (h, r, s) Q ↔ Wp 59 0 [some (pR 144), some (pR x1), some (pI x2), none, none] [] LY nx (h, r, s) (Kc 102 14 [some (pR 1), some (pI l1)] 17 [] Q))) ∧
  (∀ (l1 : Int) (x0 : Int) (nx : Nat) (h r : PF) (s : Int → Int) (Q : PO → PY → Nat → PC → Prop), x0 = 0 ∨ x0 = 1 → (Wp 102 17 [some (pR 1), some (pI l1)] [pI x0] LY nx (h, r, s) Q ↔ Q (Sum.inl (some (pI x0))) LY nx (h, r, s))) :=
  ⟨fun l1 nx h r s Q  => o_aload_n (by decide +kernel : pcode 102 0 = some (10, 0, 0, 0, 0)) rfl,
  fun l1 nx h r s Q  => o_iload_n (by decide +kernel : pcode 102 1 = some (6, 1, 0, 0, 0)) rfl,
  fun l1 x1 nx h r s Q  => o_ivV (s1 := [pI x1]) (s2 := []) (o := 1) (by decide +kernel : pcode 102 2 = some (78, 118, 2, 816, 116)) rfl (Nat.le_of_ble_eq_true rfl) (by decide) (by decide +kernel) rfl rfl rfl,
  fun l1 nx h r s Q  => o_aload_n (by decide +kernel : pcode 102 5 = some (10, 0, 0, 0, 0)) rfl,
  fun l1 nx h r s Q hw => o_getR (h := (h, r, s)) (by decide +kernel : pcode 102 6 = some (57, 446, 7, 4, 40)) (by decide) (by decide +kernel) (hw _ (List.mem_of_getElem? (i := 4) rfl)) (by decide),
  fun l1 nx h r s Q  => o_aload_n (by decide +kernel : pcode 102 9 = some (10, 0, 0, 0, 0)) rfl,
  fun l1 nx h r s Q h9 => o_getR (h := (h, r, s)) (by decide +kernel : pcode 102 10 = some (57, 448, 7, 6, 50)) (by decide) (by decide +kernel) rfl h9,
  fun l1 x1 nx h r s Q  => o_iload_n (by decide +kernel : pcode 102 13 = some (6, 1, 0, 0, 0)) rfl,
  fun l1 x1 x2 nx h r s Q  => o_ivV (s1 := [pI x2, pR x1]) (s2 := []) (o := 144) (by decide +kernel : pcode 102 14 = some (78, 59, 3, 986, 204)) rfl (Nat.le_of_ble_eq_true rfl) (by decide) (by decide +kernel) rfl rfl rfl,
  fun l1 x0 nx h r s Q hz => o_zret (by decide +kernel : pcode 102 17 = some (88, 0, 0, 0, 0)) hz⟩
set_option maxHeartbeats 4000000 in
set_option maxRecDepth 10000 in
theorem st_X7_isAgreed :
  (∀  (nx : Nat) (h r : PF) (s : Int → Int) (Q : PO → PY → Nat → PC → Prop), (Wp 103 0 [some (pR 1)] [] LY nx (h, r, s) Q ↔ Wp 103 1 [some (pR 1)] [pR 1] LY nx (h, r, s) Q)) ∧
  (∀  (nx : Nat) (h r : PF) (s : Int → Int) (Q : PO → PY → Nat → PC → Prop), WFr r → (Wp 103 1 [some (pR 1)] [pR 1] LY nx (h, r, s) Q ↔ Wp 103 4 [some (pR 1)] [pR 144] LY nx (h, r, s) Q)) ∧
  (∀  (nx : Nat) (h r : PF) (s : Int → Int) (Q : PO → PY → Nat → PC → Prop), (Wp 103 4 [some (pR 1)] [pR 144] LY nx (h, r, s) Q ↔ Wp 103 5 [some (pR 1)] [pR 1, pR 144] LY nx (h, r, s) Q)) ∧
  (∀  (nx : Nat) (h r : PF) (s : Int → Int) (Q : PO → PY → Nat → PC → Prop), 0 < (r 1 6) → (Wp 103 5 [some (pR 1)] [pR 1, pR 144] LY nx (h, r, s) Q ↔ Wp 103 8 [some (pR 1)] [pR (r 1 6), pR 144] LY nx (h, r, s) Q)) ∧
  (∀ (x1 : Int) (nx : Nat) (h r : PF) (s : Int → Int) (Q : PO → PY → Nat → PC → Prop), (Wp 103 8 [some (pR 1)] [pR x1, pR 144] LY nx (h, r, s) Q ↔ Wp 60 0 [some (pR 144), some (pR x1), none] [] LY nx (h, r, s) (Kc 103 8 [some (pR 1)] 11 [] Q))) ∧
  (∀ (x0 : Int) (nx : Nat) (h r : PF) (s : Int → Int) (Q : PO → PY → Nat → PC → Prop), x0 = 0 ∨ x0 = 1 → (Wp 103 11 [some (pR 1)] [pI x0] LY nx (h, r, s) Q ↔ Q (Sum.inl (some (pI x0))) LY nx (h, r, s))) :=
  ⟨fun  nx h r s Q  => o_aload_n (by decide +kernel : pcode 103 0 = some (10, 0, 0, 0, 0)) rfl,
  fun  nx h r s Q hw => o_getR (h := (h, r, s)) (by decide +kernel : pcode 103 1 = some (57, 446, 7, 4, 40)) (by decide) (by decide +kernel) (hw _ (List.mem_of_getElem? (i := 4) rfl)) (by decide),
  fun  nx h r s Q  => o_aload_n (by decide +kernel : pcode 103 4 = some (10, 0, 0, 0, 0)) rfl,
  fun  nx h r s Q h9 => o_getR (h := (h, r, s)) (by decide +kernel : pcode 103 5 = some (57, 448, 7, 6, 50)) (by decide) (by decide +kernel) rfl h9,
  fun x1 nx h r s Q  => o_ivV (s1 := [pR x1]) (s2 := []) (o := 144) (by decide +kernel : pcode 103 8 = some (78, 60, 2, 548, 207)) rfl (Nat.le_of_ble_eq_true rfl) (by decide) (by decide +kernel) rfl rfl rfl,
  fun x0 nx h r s Q hz => o_zret (by decide +kernel : pcode 103 11 = some (88, 0, 0, 0, 0)) hz⟩
set_option maxHeartbeats 4000000 in
set_option maxRecDepth 10000 in
theorem st_X7_words :
  (∀ (l1 : Int) (l2 : Int) (nx : Nat) (h r : PF) (s : Int → Int) (Q : PO → PY → Nat → PC → Prop), (Wp 104 0 [some (pR 1), some (pI l1), some (pI l2)] [] LY nx (h, r, s) Q ↔ Wp 104 1 [some (pR 1), some (pI l1), some (pI l2)] [pR 1] LY nx (h, r, s) Q)) ∧
  (∀ (l1 : Int) (l2 : Int) (nx : Nat) (h r : PF) (s : Int → Int) (Q : PO → PY → Nat → PC → Prop), (Wp 104 1 [some (pR 1), some (pI l1), some (pI l2)] [pR 1] LY nx (h, r, s) Q ↔ Wp 104 2 [some (pR 1), some (pI l1), some (pI l2)] [pI l1, pR 1] LY nx (h, r, s) Q)) ∧
  (∀ (l1 : Int) (l2 : Int) (x1 : Int) (nx : Nat) (h r : PF) (s : Int → Int) (Q : PO → PY → Nat → PC → Prop), (Wp 104 2 [some (pR 1), some (pI l1), some (pI l2)] [pI x1, pR 1] LY nx (h, r, s) Q ↔ Wp 121 0 [some (pR 1), some (pI x1)] [] LY nx (h, r, s) (Kc 104 2 [some (pR 1), some (pI l1), some (pI l2)] 5 [] Q))) ∧
  (∀ (l1 : Int) (l2 : Int) (nx : Nat) (h r : PF) (s : Int → Int) (Q : PO → PY → Nat → PC → Prop), (Wp 104 5 [some (pR 1), some (pI l1), some (pI l2)] [] LY nx (h, r, s) Q ↔ Wp 104 6 [some (pR 1), some (pI l1), some (pI l2)] [pI l2] LY nx (h, r, s) Q)) ∧
  (∀ (l1 : Int) (l2 : Int) (x0 : Int) (nx : Nat) (h r : PF) (s : Int → Int) (Q : PO → PY → Nat → PC → Prop), (Wp 104 6 [some (pR 1), some (pI l1), some (pI l2)] [pI x0] LY nx (h, r, s) Q ↔ Wp 104 7 [some (pR 1), some (pI l1), some (pI l2)] [pI 0, pI x0] LY nx (h, r, s) Q)) ∧
  (∀ (l1 : Int) (l2 : Int) (x0 : Int) (x1 : Int) (nx : Nat) (h r : PF) (s : Int → Int) (Q : PO → PY → Nat → PC → Prop), (Wp 104 7 [some (pR 1), some (pI l1), some (pI l2)] [pI x1, pI x0] LY nx (h, r, s) Q ↔ Wp 104 9 [some (pR 1), some (pI l1), some (pI l2)] [pI 20, pI x1, pI x0] LY nx (h, r, s) Q)) ∧
  (∀ (l1 : Int) (l2 : Int) (x0 : Int) (x1 : Int) (x2 : Int) (nx : Nat) (h r : PF) (s : Int → Int) (Q : PO → PY → Nat → PC → Prop), (Wp 104 9 [some (pR 1), some (pI l1), some (pI l2)] [pI x2, pI x1, pI x0] LY nx (h, r, s) Q ↔ Wp 123 0 [some (pI x0), some (pI x1), some (pI x2)] [] LY nx (h, r, s) (Kc 104 9 [some (pR 1), some (pI l1), some (pI l2)] 12 [] Q))) ∧
  (∀ (l1 : Int) (l2 : Int) (nx : Nat) (h r : PF) (s : Int → Int) (Q : PO → PY → Nat → PC → Prop), (Wp 104 12 [some (pR 1), some (pI l1), some (pI l2)] [] LY nx (h, r, s) Q ↔ Wp 104 13 [some (pR 1), some (pI l1), some (pI l2)] [pR 1] LY nx (h, r, s) Q)) ∧
  (∀ (l1 : Int) (l2 : Int) (nx : Nat) (h r : PF) (s : Int → Int) (Q : PO → PY → Nat → PC → Prop), WFr r → (Wp 104 13 [some (pR 1), some (pI l1), some (pI l2)] [pR 1] LY nx (h, r, s) Q ↔ Wp 104 16 [some (pR 1), some (pI l1), some (pI l2)] [pR 15] LY nx (h, r, s) Q)) ∧
  (∀ (l1 : Int) (l2 : Int) (nx : Nat) (h r : PF) (s : Int → Int) (Q : PO → PY → Nat → PC → Prop), (Wp 104 16 [some (pR 1), some (pI l1), some (pI l2)] [pR 15] LY nx (h, r, s) Q ↔ Wp 104 17 [some (pR 1), some (pI l1), some (pI l2)] [pR 1, pR 15] LY nx (h, r, s) Q)) ∧
  (∀ (l1 : Int) (l2 : Int) (nx : Nat) (h r : PF) (s : Int → Int) (Q : PO → PY → Nat → PC → Prop), 0 < (r 1 6) → (Wp 104 17 [some (pR 1), some (pI l1), some (pI l2)] [pR 1, pR 15] LY nx (h, r, s) Q ↔ Wp 104 20 [some (pR 1), some (pI l1), some (pI l2)] [pR (r 1 6), pR 15] LY nx (h, r, s) Q)) ∧
  (∀ (l1 : Int) (l2 : Int) (x1 : Int) (nx : Nat) (h r : PF) (s : Int → Int) (Q : PO → PY → Nat → PC → Prop), (Wp 104 20 [some (pR 1), some (pI l1), some (pI l2)] [pR x1, pR 15] LY nx (h, r, s) Q ↔ Wp 104 21 [some (pR 1), some (pI l1), some (pI l2)] [pI l1, pR x1, pR 15] LY nx (h, r, s) Q)) ∧
  (∀ (l1 : Int) (l2 : Int) (x1 : Int) (x2 : Int) (nx : Nat) (h r : PF) (s : Int → Int) (Q : PO → PY → Nat → PC → Prop), (Wp 104 21 [some (pR 1), some (pI l1), some (pI l2)] [pI x2, pR x1, pR 15] LY nx (h, r, s) Q ↔ Wp 104 22 [some (pR 1), some (pI l1), some (pI l2)] [pI l2, pI x2, pR x1, pR 15] LY nx (h, r, s) Q)) ∧
  (∀ (l1 : Int) (l2 : Int) (x1 : Int) (x2 : Int) (x3 : Int) (nx : Nat) (h r : PF) (s : Int → Int) (Q : PO → PY → Nat → PC → Prop), (Wp 104 22 [some (pR 1), some (pI l1), some (pI l2)] [pI x3, pI x2, pR x1, pR 15] LY nx (h, r, s) Q ↔ Wp 42 0 [some (pR 15), some (pR x1), some (pI x2), some (pI x3), none, none] [] LY nx (h, r, s) (Kc 104 22 [some (pR 1), some (pI l1), some (pI l2)] 25 [] Q))) ∧
  (∀ (l1 : Int) (l2 : Int) (x0 : Int) (nx : Nat) (h r : PF) (s : Int → Int) (Q : PO → PY → Nat → PC → Prop), (Wp 104 25 [some (pR 1), some (pI l1), some (pI l2)] [pJ x0] LY nx (h, r, s) Q ↔ Q (Sum.inl (some (pJ x0))) LY nx (h, r, s))) :=
  ⟨fun l1 l2 nx h r s Q  => o_aload_n (by decide +kernel : pcode 104 0 = some (10, 0, 0, 0, 0)) rfl,
  fun l1 l2 nx h r s Q  => o_iload_n (by decide +kernel : pcode 104 1 = some (6, 1, 0, 0, 0)) rfl,
  fun l1 l2 x1 nx h r s Q  => o_ivV (s1 := [pI x1]) (s2 := []) (o := 1) (by decide +kernel : pcode 104 2 = some (78, 121, 2, 997, 211)) rfl (Nat.le_of_ble_eq_true rfl) (by decide) (by decide +kernel) rfl rfl rfl,
  fun l1 l2 nx h r s Q  => o_iload_n (by decide +kernel : pcode 104 5 = some (6, 2, 0, 0, 0)) rfl,
  fun l1 l2 x0 nx h r s Q  => o_iconst (by decide +kernel : pcode 104 6 = some (1, 0, 0, 0, 0)),
  fun l1 l2 x0 x1 nx h r s Q  => o_bipush (by decide +kernel : pcode 104 7 = some (2, 0, 0, 0, 20)),
  fun l1 l2 x0 x1 x2 nx h r s Q  => o_ivS (s1 := [pI x2, pI x1, pI x0]) (s2 := []) (by decide +kernel : pcode 104 9 = some (77, 123, 3, 573, 69)) rfl (Nat.le_of_ble_eq_true rfl) rfl rfl rfl,
  fun l1 l2 nx h r s Q  => o_aload_n (by decide +kernel : pcode 104 12 = some (10, 0, 0, 0, 0)) rfl,
  fun l1 l2 nx h r s Q hw => o_getR (h := (h, r, s)) (by decide +kernel : pcode 104 13 = some (57, 444, 7, 2, 26)) (by decide) (by decide +kernel) (hw _ (List.mem_of_getElem? (i := 2) rfl)) (by decide),
  fun l1 l2 nx h r s Q  => o_aload_n (by decide +kernel : pcode 104 16 = some (10, 0, 0, 0, 0)) rfl,
  fun l1 l2 nx h r s Q h9 => o_getR (h := (h, r, s)) (by decide +kernel : pcode 104 17 = some (57, 448, 7, 6, 50)) (by decide) (by decide +kernel) rfl h9,
  fun l1 l2 x1 nx h r s Q  => o_iload_n (by decide +kernel : pcode 104 20 = some (6, 1, 0, 0, 0)) rfl,
  fun l1 l2 x1 x2 nx h r s Q  => o_iload_n (by decide +kernel : pcode 104 21 = some (6, 2, 0, 0, 0)) rfl,
  fun l1 l2 x1 x2 x3 nx h r s Q  => o_ivV (s1 := [pI x3, pI x2, pR x1]) (s2 := []) (o := 15) (by decide +kernel : pcode 104 22 = some (78, 42, 4, 1001, 214)) rfl (Nat.le_of_ble_eq_true rfl) (by decide) (by decide +kernel) rfl rfl rfl,
  fun l1 l2 x0 nx h r s Q  => o_lret (by decide +kernel : pcode 104 25 = some (89, 0, 0, 0, 0))⟩
set_option maxHeartbeats 4000000 in
set_option maxRecDepth 10000 in
theorem st_X7_shortest :
  (∀ (l1 : Int) (nx : Nat) (h r : PF) (s : Int → Int) (Q : PO → PY → Nat → PC → Prop), (Wp 105 0 [some (pR 1), some (pI l1)] [] LY nx (h, r, s) Q ↔ Wp 105 1 [some (pR 1), some (pI l1)] [pR 1] LY nx (h, r, s) Q)) ∧
  (∀ (l1 : Int) (nx : Nat) (h r : PF) (s : Int → Int) (Q : PO → PY → Nat → PC → Prop), (Wp 105 1 [some (pR 1), some (pI l1)] [pR 1] LY nx (h, r, s) Q ↔ Wp 105 2 [some (pR 1), some (pI l1)] [pI l1, pR 1] LY nx (h, r, s) Q)) ∧
  (∀ (l1 : Int) (x1 : Int) (nx : Nat) (h r : PF) (s : Int → Int) (Q : PO → PY → Nat → PC → Prop), (Wp 105 2 [some (pR 1), some (pI l1)] [pI x1, pR 1] LY nx (h, r, s) Q ↔ Wp 121 0 [some (pR 1), some (pI x1)] [] LY nx (h, r, s) (Kc 105 2 [some (pR 1), some (pI l1)] 5 [] Q))) ∧
  (∀ (l1 : Int) (nx : Nat) (h r : PF) (s : Int → Int) (Q : PO → PY → Nat → PC → Prop), (Wp 105 5 [some (pR 1), some (pI l1)] [] LY nx (h, r, s) Q ↔ Wp 105 6 [some (pR 1), some (pI l1)] [pR 1] LY nx (h, r, s) Q)) ∧
  (∀ (l1 : Int) (nx : Nat) (h r : PF) (s : Int → Int) (Q : PO → PY → Nat → PC → Prop), WFr r → (Wp 105 6 [some (pR 1), some (pI l1)] [pR 1] LY nx (h, r, s) Q ↔ Wp 105 9 [some (pR 1), some (pI l1)] [pR 15] LY nx (h, r, s) Q)) ∧
  (∀ (l1 : Int) (nx : Nat) (h r : PF) (s : Int → Int) (Q : PO → PY → Nat → PC → Prop), (Wp 105 9 [some (pR 1), some (pI l1)] [pR 15] LY nx (h, r, s) Q ↔ Wp 105 10 [some (pR 1), some (pI l1)] [pR 1, pR 15] LY nx (h, r, s) Q)) ∧
  (∀ (l1 : Int) (nx : Nat) (h r : PF) (s : Int → Int) (Q : PO → PY → Nat → PC → Prop), 0 < (r 1 6) → (Wp 105 10 [some (pR 1), some (pI l1)] [pR 1, pR 15] LY nx (h, r, s) Q ↔ Wp 105 13 [some (pR 1), some (pI l1)] [pR (r 1 6), pR 15] LY nx (h, r, s) Q)) ∧
  (∀ (l1 : Int) (x1 : Int) (nx : Nat) (h r : PF) (s : Int → Int) (Q : PO → PY → Nat → PC → Prop), (Wp 105 13 [some (pR 1), some (pI l1)] [pR x1, pR 15] LY nx (h, r, s) Q ↔ Wp 105 14 [some (pR 1), some (pI l1)] [pI l1, pR x1, pR 15] LY nx (h, r, s) Q)) ∧
  (∀ (l1 : Int) (x1 : Int) (x2 : Int) (nx : Nat) (h r : PF) (s : Int → Int) (Q : PO → PY → Nat → PC → Prop), (Wp 105 14 [some (pR 1), some (pI l1)] [pI x2, pR x1, pR 15] LY nx (h, r, s) Q ↔ Wp 44 0 [some (pR 15), some (pR x1), some (pI x2)] [] LY nx (h, r, s) (Kc 105 14 [some (pR 1), some (pI l1)] 17 [] Q))) ∧
  (∀ (l1 : Int) (x0 : Int) (nx : Nat) (h r : PF) (s : Int → Int) (Q : PO → PY → Nat → PC → Prop), (Wp 105 17 [some (pR 1), some (pI l1)] [pI x0] LY nx (h, r, s) Q ↔ Q (Sum.inl (some (pI x0))) LY nx (h, r, s))) :=
  ⟨fun l1 nx h r s Q  => o_aload_n (by decide +kernel : pcode 105 0 = some (10, 0, 0, 0, 0)) rfl,
  fun l1 nx h r s Q  => o_iload_n (by decide +kernel : pcode 105 1 = some (6, 1, 0, 0, 0)) rfl,
  fun l1 x1 nx h r s Q  => o_ivV (s1 := [pI x1]) (s2 := []) (o := 1) (by decide +kernel : pcode 105 2 = some (78, 121, 2, 997, 211)) rfl (Nat.le_of_ble_eq_true rfl) (by decide) (by decide +kernel) rfl rfl rfl,
  fun l1 nx h r s Q  => o_aload_n (by decide +kernel : pcode 105 5 = some (10, 0, 0, 0, 0)) rfl,
  fun l1 nx h r s Q hw => o_getR (h := (h, r, s)) (by decide +kernel : pcode 105 6 = some (57, 444, 7, 2, 26)) (by decide) (by decide +kernel) (hw _ (List.mem_of_getElem? (i := 2) rfl)) (by decide),
  fun l1 nx h r s Q  => o_aload_n (by decide +kernel : pcode 105 9 = some (10, 0, 0, 0, 0)) rfl,
  fun l1 nx h r s Q h9 => o_getR (h := (h, r, s)) (by decide +kernel : pcode 105 10 = some (57, 448, 7, 6, 50)) (by decide) (by decide +kernel) rfl h9,
  fun l1 x1 nx h r s Q  => o_iload_n (by decide +kernel : pcode 105 13 = some (6, 1, 0, 0, 0)) rfl,
  fun l1 x1 x2 nx h r s Q  => o_ivV (s1 := [pI x2, pR x1]) (s2 := []) (o := 15) (by decide +kernel : pcode 105 14 = some (78, 44, 3, 1044, 218)) rfl (Nat.le_of_ble_eq_true rfl) (by decide) (by decide +kernel) rfl rfl rfl,
  fun l1 x0 nx h r s Q  => o_iret (by decide +kernel : pcode 105 17 = some (87, 0, 0, 0, 0))⟩
set_option maxHeartbeats 4000000 in
set_option maxRecDepth 10000 in
theorem st_X7_shortestLetter :
  (∀ (l1 : Int) (l2 : Int) (nx : Nat) (h r : PF) (s : Int → Int) (Q : PO → PY → Nat → PC → Prop), (Wp 106 0 [some (pR 1), some (pI l1), some (pI l2)] [] LY nx (h, r, s) Q ↔ Wp 106 1 [some (pR 1), some (pI l1), some (pI l2)] [pR 1] LY nx (h, r, s) Q)) ∧
  (∀ (l1 : Int) (l2 : Int) (nx : Nat) (h r : PF) (s : Int → Int) (Q : PO → PY → Nat → PC → Prop), (Wp 106 1 [some (pR 1), some (pI l1), some (pI l2)] [pR 1] LY nx (h, r, s) Q ↔ Wp 106 2 [some (pR 1), some (pI l1), some (pI l2)] [pI l1, pR 1] LY nx (h, r, s) Q)) ∧
  (∀ (l1 : Int) (l2 : Int) (x1 : Int) (nx : Nat) (h r : PF) (s : Int → Int) (Q : PO → PY → Nat → PC → Prop), (Wp 106 2 [some (pR 1), some (pI l1), some (pI l2)] [pI x1, pR 1] LY nx (h, r, s) Q ↔ Wp 121 0 [some (pR 1), some (pI x1)] [] LY nx (h, r, s) (Kc 106 2 [some (pR 1), some (pI l1), some (pI l2)] 5 [] Q))) ∧
  (∀ (l1 : Int) (l2 : Int) (nx : Nat) (h r : PF) (s : Int → Int) (Q : PO → PY → Nat → PC → Prop), (Wp 106 5 [some (pR 1), some (pI l1), some (pI l2)] [] LY nx (h, r, s) Q ↔ Wp 106 6 [some (pR 1), some (pI l1), some (pI l2)] [pR 1] LY nx (h, r, s) Q)) ∧
  (∀ (l1 : Int) (l2 : Int) (nx : Nat) (h r : PF) (s : Int → Int) (Q : PO → PY → Nat → PC → Prop), WFr r → (Wp 106 6 [some (pR 1), some (pI l1), some (pI l2)] [pR 1] LY nx (h, r, s) Q ↔ Wp 106 9 [some (pR 1), some (pI l1), some (pI l2)] [pR 15] LY nx (h, r, s) Q)) ∧
  (∀ (l1 : Int) (l2 : Int) (nx : Nat) (h r : PF) (s : Int → Int) (Q : PO → PY → Nat → PC → Prop), (Wp 106 9 [some (pR 1), some (pI l1), some (pI l2)] [pR 15] LY nx (h, r, s) Q ↔ Wp 106 10 [some (pR 1), some (pI l1), some (pI l2)] [pR 1, pR 15] LY nx (h, r, s) Q)) ∧
  (∀ (l1 : Int) (l2 : Int) (nx : Nat) (h r : PF) (s : Int → Int) (Q : PO → PY → Nat → PC → Prop), 0 < (r 1 6) → (Wp 106 10 [some (pR 1), some (pI l1), some (pI l2)] [pR 1, pR 15] LY nx (h, r, s) Q ↔ Wp 106 13 [some (pR 1), some (pI l1), some (pI l2)] [pR (r 1 6), pR 15] LY nx (h, r, s) Q)) ∧
  (∀ (l1 : Int) (l2 : Int) (x1 : Int) (nx : Nat) (h r : PF) (s : Int → Int) (Q : PO → PY → Nat → PC → Prop), (Wp 106 13 [some (pR 1), some (pI l1), some (pI l2)] [pR x1, pR 15] LY nx (h, r, s) Q ↔ Wp 106 14 [some (pR 1), some (pI l1), some (pI l2)] [pI l1, pR x1, pR 15] LY nx (h, r, s) Q)) ∧
  (∀ (l1 : Int) (l2 : Int) (x1 : Int) (x2 : Int) (nx : Nat) (h r : PF) (s : Int → Int) (Q : PO → PY → Nat → PC → Prop), (Wp 106 14 [some (pR 1), some (pI l1), some (pI l2)] [pI x2, pR x1, pR 15] LY nx (h, r, s) Q ↔ Wp 106 15 [some (pR 1), some (pI l1), some (pI l2)] [pI l2, pI x2, pR x1, pR 15] LY nx (h, r, s) Q)) ∧
  (∀ (l1 : Int) (l2 : Int) (x1 : Int) (x2 : Int) (x3 : Int) (nx : Nat) (h r : PF) (s : Int → Int) (Q : PO → PY → Nat → PC → Prop), (Wp 106 15 [some (pR 1), some (pI l1), some (pI l2)] [pI x3, pI x2, pR x1, pR 15] LY nx (h, r, s) Q ↔ Wp 45 0 [some (pR 15), some (pR x1), some (pI x2), some (pI x3), none, none, none] [] LY nx (h, r, s) (Kc 106 15 [some (pR 1), some (pI l1), some (pI l2)] 18 [] Q))) ∧
  (∀ (l1 : Int) (l2 : Int) (x0 : Int) (nx : Nat) (h r : PF) (s : Int → Int) (Q : PO → PY → Nat → PC → Prop), (Wp 106 18 [some (pR 1), some (pI l1), some (pI l2)] [pI x0] LY nx (h, r, s) Q ↔ Q (Sum.inl (some (pI x0))) LY nx (h, r, s))) :=
  ⟨fun l1 l2 nx h r s Q  => o_aload_n (by decide +kernel : pcode 106 0 = some (10, 0, 0, 0, 0)) rfl,
  fun l1 l2 nx h r s Q  => o_iload_n (by decide +kernel : pcode 106 1 = some (6, 1, 0, 0, 0)) rfl,
  fun l1 l2 x1 nx h r s Q  => o_ivV (s1 := [pI x1]) (s2 := []) (o := 1) (by decide +kernel : pcode 106 2 = some (78, 121, 2, 997, 211)) rfl (Nat.le_of_ble_eq_true rfl) (by decide) (by decide +kernel) rfl rfl rfl,
  fun l1 l2 nx h r s Q  => o_aload_n (by decide +kernel : pcode 106 5 = some (10, 0, 0, 0, 0)) rfl,
  fun l1 l2 nx h r s Q hw => o_getR (h := (h, r, s)) (by decide +kernel : pcode 106 6 = some (57, 444, 7, 2, 26)) (by decide) (by decide +kernel) (hw _ (List.mem_of_getElem? (i := 2) rfl)) (by decide),
  fun l1 l2 nx h r s Q  => o_aload_n (by decide +kernel : pcode 106 9 = some (10, 0, 0, 0, 0)) rfl,
  fun l1 l2 nx h r s Q h9 => o_getR (h := (h, r, s)) (by decide +kernel : pcode 106 10 = some (57, 448, 7, 6, 50)) (by decide) (by decide +kernel) rfl h9,
  fun l1 l2 x1 nx h r s Q  => o_iload_n (by decide +kernel : pcode 106 13 = some (6, 1, 0, 0, 0)) rfl,
  fun l1 l2 x1 x2 nx h r s Q  => o_iload_n (by decide +kernel : pcode 106 14 = some (6, 2, 0, 0, 0)) rfl,
  fun l1 l2 x1 x2 x3 nx h r s Q  => o_ivV (s1 := [pI x3, pI x2, pR x1]) (s2 := []) (o := 15) (by decide +kernel : pcode 106 15 = some (78, 45, 4, 1059, 222)) rfl (Nat.le_of_ble_eq_true rfl) (by decide) (by decide +kernel) rfl rfl rfl,
  fun l1 l2 x0 nx h r s Q  => o_iret (by decide +kernel : pcode 106 18 = some (87, 0, 0, 0, 0))⟩
set_option maxHeartbeats 4000000 in
set_option maxRecDepth 10000 in
theorem st_X7_differs :
  (∀ (l1 : Int) (l2 : Int) (nx : Nat) (h r : PF) (s : Int → Int) (Q : PO → PY → Nat → PC → Prop), (Wp 107 0 [some (pR 1), some (pI l1), some (pI l2)] [] LY nx (h, r, s) Q ↔ Wp 107 1 [some (pR 1), some (pI l1), some (pI l2)] [pR 1] LY nx (h, r, s) Q)) ∧
  (∀ (l1 : Int) (l2 : Int) (nx : Nat) (h r : PF) (s : Int → Int) (Q : PO → PY → Nat → PC → Prop), (Wp 107 1 [some (pR 1), some (pI l1), some (pI l2)] [pR 1] LY nx (h, r, s) Q ↔ Wp 107 2 [some (pR 1), some (pI l1), some (pI l2)] [pI l1, pR 1] LY nx (h, r, s) Q)) ∧
  (∀ (l1 : Int) (l2 : Int) (x1 : Int) (nx : Nat) (h r : PF) (s : Int → Int) (Q : PO → PY → Nat → PC → Prop), (Wp 107 2 [some (pR 1), some (pI l1), some (pI l2)] [pI x1, pR 1] LY nx (h, r, s) Q ↔ Wp 118 0 [some (pR 1), some (pI x1)] [] LY nx (h, r, s) (Kc 107 2 [some (pR 1), some (pI l1), some (pI l2)] 5 [] Q))) ∧
  (∀ (l1 : Int) (l2 : Int) (nx : Nat) (h r : PF) (s : Int → Int) (Q : PO → PY → Nat → PC → Prop), (Wp 107 5 [some (pR 1), some (pI l1), some (pI l2)] [] LY nx (h, r, s) Q ↔ Wp 107 6 [some (pR 1), some (pI l1), some (pI l2)] [pR 1] LY nx (h, r, s) Q)) ∧
  (∀ (l1 : Int) (l2 : Int) (nx : Nat) (h r : PF) (s : Int → Int) (Q : PO → PY → Nat → PC → Prop), (Wp 107 6 [some (pR 1), some (pI l1), some (pI l2)] [pR 1] LY nx (h, r, s) Q ↔ Wp 107 7 [some (pR 1), some (pI l1), some (pI l2)] [pI l2, pR 1] LY nx (h, r, s) Q)) ∧
  (∀ (l1 : Int) (l2 : Int) (x1 : Int) (nx : Nat) (h r : PF) (s : Int → Int) (Q : PO → PY → Nat → PC → Prop), (Wp 107 7 [some (pR 1), some (pI l1), some (pI l2)] [pI x1, pR 1] LY nx (h, r, s) Q ↔ Wp 118 0 [some (pR 1), some (pI x1)] [] LY nx (h, r, s) (Kc 107 7 [some (pR 1), some (pI l1), some (pI l2)] 10 [] Q))) ∧
  (∀ (l1 : Int) (l2 : Int) (nx : Nat) (h r : PF) (s : Int → Int) (Q : PO → PY → Nat → PC → Prop), (Wp 107 10 [some (pR 1), some (pI l1), some (pI l2)] [] LY nx (h, r, s) Q ↔ Wp 107 11 [some (pR 1), some (pI l1), some (pI l2)] [pI l1] LY nx (h, r, s) Q)) ∧
  (∀ (l1 : Int) (l2 : Int) (x0 : Int) (nx : Nat) (h r : PF) (s : Int → Int) (Q : PO → PY → Nat → PC → Prop), (Wp 107 11 [some (pR 1), some (pI l1), some (pI l2)] [pI x0] LY nx (h, r, s) Q ↔ Wp 107 12 [some (pR 1), some (pI l1), some (pI l2)] [pI l2, pI x0] LY nx (h, r, s) Q)) ∧
  (∀ (l1 : Int) (l2 : Int) (x0 : Int) (x1 : Int) (nx : Nat) (h r : PF) (s : Int → Int) (Q : PO → PY → Nat → PC → Prop), (Wp 107 12 [some (pR 1), some (pI l1), some (pI l2)] [pI x1, pI x0] LY nx (h, r, s) Q ↔ (if x0 ≠ x1 then Wp 107 19 [some (pR 1), some (pI l1), some (pI l2)] [] LY nx (h, r, s) Q else Wp 107 15 [some (pR 1), some (pI l1), some (pI l2)] [] LY nx (h, r, s) Q))) ∧
  (∀ (l1 : Int) (l2 : Int) (nx : Nat) (h r : PF) (s : Int → Int) (Q : PO → PY → Nat → PC → Prop), (Wp 107 15 [some (pR 1), some (pI l1), some (pI l2)] [] LY nx (h, r, s) Q ↔ Wp 107 16 [some (pR 1), some (pI l1), some (pI l2)] [pI (-1)] LY nx (h, r, s) Q)) ∧
  (∀ (l1 : Int) (l2 : Int) (x0 : Int) (nx : Nat) (h r : PF) (s : Int → Int) (Q : PO → PY → Nat → PC → Prop), (Wp 107 16 [some (pR 1), some (pI l1), some (pI l2)] [pI x0] LY nx (h, r, s) Q ↔ Wp 107 37 [some (pR 1), some (pI l1), some (pI l2)] [pI x0] LY nx (h, r, s) Q)) ∧
  (∀ (l1 : Int) (l2 : Int) (nx : Nat) (h r : PF) (s : Int → Int) (Q : PO → PY → Nat → PC → Prop), (Wp 107 19 [some (pR 1), some (pI l1), some (pI l2)] [] LY nx (h, r, s) Q ↔ Wp 107 20 [some (pR 1), some (pI l1), some (pI l2)] [pR 1] LY nx (h, r, s) Q)) ∧
  (∀ (l1 : Int) (l2 : Int) (nx : Nat) (h r : PF) (s : Int → Int) (Q : PO → PY → Nat → PC → Prop), WFr r → (Wp 107 20 [some (pR 1), some (pI l1), some (pI l2)] [pR 1] LY nx (h, r, s) Q ↔ Wp 107 23 [some (pR 1), some (pI l1), some (pI l2)] [pR 15] LY nx (h, r, s) Q)) ∧
  (∀ (l1 : Int) (l2 : Int) (nx : Nat) (h r : PF) (s : Int → Int) (Q : PO → PY → Nat → PC → Prop), (Wp 107 23 [some (pR 1), some (pI l1), some (pI l2)] [pR 15] LY nx (h, r, s) Q ↔ Wp 107 24 [some (pR 1), some (pI l1), some (pI l2)] [pR 1, pR 15] LY nx (h, r, s) Q)) ∧
  (∀ (l1 : Int) (l2 : Int) (nx : Nat) (h r : PF) (s : Int → Int) (Q : PO → PY → Nat → PC → Prop), 0 < (r 1 6) → (Wp 107 24 [some (pR 1), some (pI l1), some (pI l2)] [pR 1, pR 15] LY nx (h, r, s) Q ↔ Wp 107 27 [some (pR 1), some (pI l1), some (pI l2)] [pR (r 1 6), pR 15] LY nx (h, r, s) Q)) ∧
  (∀ (l1 : Int) (l2 : Int) (x1 : Int) (nx : Nat) (h r : PF) (s : Int → Int) (Q : PO → PY → Nat → PC → Prop), (Wp 107 27 [some (pR 1), some (pI l1), some (pI l2)] [pR x1, pR 15] LY nx (h, r, s) Q ↔ Wp 107 28 [some (pR 1), some (pI l1), some (pI l2)] [pI 1, pR x1, pR 15] LY nx (h, r, s) Q)) ∧
  (∀ (l1 : Int) (l2 : Int) (x1 : Int) (x2 : Int) (nx : Nat) (h r : PF) (s : Int → Int) (Q : PO → PY → Nat → PC → Prop), (Wp 107 28 [some (pR 1), some (pI l1), some (pI l2)] [pI x2, pR x1, pR 15] LY nx (h, r, s) Q ↔ Wp 107 29 [some (pR 1), some (pI l1), some (pI l2)] [pI l1, pI x2, pR x1, pR 15] LY nx (h, r, s) Q)) ∧
  (∀ (l1 : Int) (l2 : Int) (x1 : Int) (x2 : Int) (x3 : Int) (nx : Nat) (h r : PF) (s : Int → Int) (Q : PO → PY → Nat → PC → Prop), (Wp 107 29 [some (pR 1), some (pI l1), some (pI l2)] [pI x3, pI x2, pR x1, pR 15] LY nx (h, r, s) Q ↔ Wp 107 30 [some (pR 1), some (pI l1), some (pI l2)] [pI (pshl x2 x3), pR x1, pR 15] LY nx (h, r, s) Q)) ∧
  (∀ (l1 : Int) (l2 : Int) (x1 : Int) (x2 : Int) (nx : Nat) (h r : PF) (s : Int → Int) (Q : PO → PY → Nat → PC → Prop), (Wp 107 30 [some (pR 1), some (pI l1), some (pI l2)] [pI x2, pR x1, pR 15] LY nx (h, r, s) Q ↔ Wp 107 31 [some (pR 1), some (pI l1), some (pI l2)] [pI 1, pI x2, pR x1, pR 15] LY nx (h, r, s) Q)) ∧
  (∀ (l1 : Int) (l2 : Int) (x1 : Int) (x2 : Int) (x3 : Int) (nx : Nat) (h r : PF) (s : Int → Int) (Q : PO → PY → Nat → PC → Prop), (Wp 107 31 [some (pR 1), some (pI l1), some (pI l2)] [pI x3, pI x2, pR x1, pR 15] LY nx (h, r, s) Q ↔ Wp 107 32 [some (pR 1), some (pI l1), some (pI l2)] [pI l2, pI x3, pI x2, pR x1, pR 15] LY nx (h, r, s) Q)) ∧
  (∀ (l1 : Int) (l2 : Int) (x1 : Int) (x2 : Int) (x3 : Int) (x4 : Int) (nx : Nat) (h r : PF) (s : Int → Int) (Q : PO → PY → Nat → PC → Prop), (Wp 107 32 [some (pR 1), some (pI l1), some (pI l2)] [pI x4, pI x3, pI x2, pR x1, pR 15] LY nx (h, r, s) Q ↔ Wp 107 33 [some (pR 1), some (pI l1), some (pI l2)] [pI (pshl x3 x4), pI x2, pR x1, pR 15] LY nx (h, r, s) Q)) ∧
  (∀ (l1 : Int) (l2 : Int) (x1 : Int) (x2 : Int) (x3 : Int) (nx : Nat) (h r : PF) (s : Int → Int) (Q : PO → PY → Nat → PC → Prop), (Wp 107 33 [some (pR 1), some (pI l1), some (pI l2)] [pI x3, pI x2, pR x1, pR 15] LY nx (h, r, s) Q ↔ Wp 107 34 [some (pR 1), some (pI l1), some (pI l2)] [pI (por x2 x3), pR x1, pR 15] LY nx (h, r, s) Q)) ∧
  (∀ (l1 : Int) (l2 : Int) (x1 : Int) (x2 : Int) (nx : Nat) (h r : PF) (s : Int → Int) (Q : PO → PY → Nat → PC → Prop), (Wp 107 34 [some (pR 1), some (pI l1), some (pI l2)] [pI x2, pR x1, pR 15] LY nx (h, r, s) Q ↔ Wp 46 0 [some (pR 15), some (pR x1), some (pI x2)] [] LY nx (h, r, s) (Kc 107 34 [some (pR 1), some (pI l1), some (pI l2)] 37 [] Q))) ∧
  (∀ (l1 : Int) (l2 : Int) (x0 : Int) (nx : Nat) (h r : PF) (s : Int → Int) (Q : PO → PY → Nat → PC → Prop), (Wp 107 37 [some (pR 1), some (pI l1), some (pI l2)] [pI x0] LY nx (h, r, s) Q ↔ Q (Sum.inl (some (pI x0))) LY nx (h, r, s))) :=
  ⟨fun l1 l2 nx h r s Q  => o_aload_n (by decide +kernel : pcode 107 0 = some (10, 0, 0, 0, 0)) rfl,
  fun l1 l2 nx h r s Q  => o_iload_n (by decide +kernel : pcode 107 1 = some (6, 1, 0, 0, 0)) rfl,
  fun l1 l2 x1 nx h r s Q  => o_ivV (s1 := [pI x1]) (s2 := []) (o := 1) (by decide +kernel : pcode 107 2 = some (78, 118, 2, 816, 116)) rfl (Nat.le_of_ble_eq_true rfl) (by decide) (by decide +kernel) rfl rfl rfl,
  fun l1 l2 nx h r s Q  => o_aload_n (by decide +kernel : pcode 107 5 = some (10, 0, 0, 0, 0)) rfl,
  fun l1 l2 nx h r s Q  => o_iload_n (by decide +kernel : pcode 107 6 = some (6, 2, 0, 0, 0)) rfl,
  fun l1 l2 x1 nx h r s Q  => o_ivV (s1 := [pI x1]) (s2 := []) (o := 1) (by decide +kernel : pcode 107 7 = some (78, 118, 2, 816, 116)) rfl (Nat.le_of_ble_eq_true rfl) (by decide) (by decide +kernel) rfl rfl rfl,
  fun l1 l2 nx h r s Q  => o_iload_n (by decide +kernel : pcode 107 10 = some (6, 1, 0, 0, 0)) rfl,
  fun l1 l2 x0 nx h r s Q  => o_iload_n (by decide +kernel : pcode 107 11 = some (6, 2, 0, 0, 0)) rfl,
  fun l1 l2 x0 x1 nx h r s Q  => o_icmp_ne (by decide +kernel : pcode 107 12 = some (48, 19, 0, 0, 7)),
  fun l1 l2 nx h r s Q  => o_iconst (by decide +kernel : pcode 107 15 = some (1, 0, 0, 0, -1)),
  fun l1 l2 x0 nx h r s Q  => o_goto (by decide +kernel : pcode 107 16 = some (53, 37, 0, 0, 21)),
  fun l1 l2 nx h r s Q  => o_aload_n (by decide +kernel : pcode 107 19 = some (10, 0, 0, 0, 0)) rfl,
  fun l1 l2 nx h r s Q hw => o_getR (h := (h, r, s)) (by decide +kernel : pcode 107 20 = some (57, 444, 7, 2, 26)) (by decide) (by decide +kernel) (hw _ (List.mem_of_getElem? (i := 2) rfl)) (by decide),
  fun l1 l2 nx h r s Q  => o_aload_n (by decide +kernel : pcode 107 23 = some (10, 0, 0, 0, 0)) rfl,
  fun l1 l2 nx h r s Q h9 => o_getR (h := (h, r, s)) (by decide +kernel : pcode 107 24 = some (57, 448, 7, 6, 50)) (by decide) (by decide +kernel) rfl h9,
  fun l1 l2 x1 nx h r s Q  => o_iconst (by decide +kernel : pcode 107 27 = some (1, 0, 0, 0, 1)),
  fun l1 l2 x1 x2 nx h r s Q  => o_iload_n (by decide +kernel : pcode 107 28 = some (6, 1, 0, 0, 0)) rfl,
  fun l1 l2 x1 x2 x3 nx h r s Q  => o_ishl (by decide +kernel : pcode 107 29 = some (26, 0, 0, 0, 0)),
  fun l1 l2 x1 x2 nx h r s Q  => o_iconst (by decide +kernel : pcode 107 30 = some (1, 0, 0, 0, 1)),
  fun l1 l2 x1 x2 x3 nx h r s Q  => o_iload_n (by decide +kernel : pcode 107 31 = some (6, 2, 0, 0, 0)) rfl,
  fun l1 l2 x1 x2 x3 x4 nx h r s Q  => o_ishl (by decide +kernel : pcode 107 32 = some (26, 0, 0, 0, 0)),
  fun l1 l2 x1 x2 x3 nx h r s Q  => o_ior (by decide +kernel : pcode 107 33 = some (23, 0, 0, 0, 0)),
  fun l1 l2 x1 x2 nx h r s Q  => o_ivV (s1 := [pI x2, pR x1]) (s2 := []) (o := 15) (by decide +kernel : pcode 107 34 = some (78, 46, 3, 1070, 226)) rfl (Nat.le_of_ble_eq_true rfl) (by decide) (by decide +kernel) rfl rfl rfl,
  fun l1 l2 x0 nx h r s Q  => o_iret (by decide +kernel : pcode 107 37 = some (87, 0, 0, 0, 0))⟩
set_option maxHeartbeats 4000000 in
set_option maxRecDepth 10000 in
theorem st_X7_log :
  (∀ (l1 : Int) (l2 : Int) (nx : Nat) (h r : PF) (s : Int → Int) (Q : PO → PY → Nat → PC → Prop), (Wp 108 0 [some (pR 1), some (pI l1), some (pI l2)] [] LY nx (h, r, s) Q ↔ Wp 108 1 [some (pR 1), some (pI l1), some (pI l2)] [pI l2] LY nx (h, r, s) Q)) ∧
  (∀ (l1 : Int) (l2 : Int) (x0 : Int) (nx : Nat) (h r : PF) (s : Int → Int) (Q : PO → PY → Nat → PC → Prop), (Wp 108 1 [some (pR 1), some (pI l1), some (pI l2)] [pI x0] LY nx (h, r, s) Q ↔ Wp 108 2 [some (pR 1), some (pI l1), some (pI l2)] [pI 0, pI x0] LY nx (h, r, s) Q)) ∧
  (∀ (l1 : Int) (l2 : Int) (x0 : Int) (x1 : Int) (nx : Nat) (h r : PF) (s : Int → Int) (Q : PO → PY → Nat → PC → Prop), (Wp 108 2 [some (pR 1), some (pI l1), some (pI l2)] [pI x1, pI x0] LY nx (h, r, s) Q ↔ Wp 108 3 [some (pR 1), some (pI l1), some (pI l2)] [pI 3, pI x1, pI x0] LY nx (h, r, s) Q)) ∧
  (∀ (l1 : Int) (l2 : Int) (x0 : Int) (x1 : Int) (x2 : Int) (nx : Nat) (h r : PF) (s : Int → Int) (Q : PO → PY → Nat → PC → Prop), (Wp 108 3 [some (pR 1), some (pI l1), some (pI l2)] [pI x2, pI x1, pI x0] LY nx (h, r, s) Q ↔ Wp 123 0 [some (pI x0), some (pI x1), some (pI x2)] [] LY nx (h, r, s) (Kc 108 3 [some (pR 1), some (pI l1), some (pI l2)] 6 [] Q))) ∧
  (∀ (l1 : Int) (l2 : Int) (nx : Nat) (h r : PF) (s : Int → Int) (Q : PO → PY → Nat → PC → Prop), (Wp 108 6 [some (pR 1), some (pI l1), some (pI l2)] [] LY nx (h, r, s) Q ↔ Wp 108 7 [some (pR 1), some (pI l1), some (pI l2)] [pR 1] LY nx (h, r, s) Q)) ∧
  (∀ (l1 : Int) (l2 : Int) (nx : Nat) (h r : PF) (s : Int → Int) (Q : PO → PY → Nat → PC → Prop), WFr r → (Wp 108 7 [some (pR 1), some (pI l1), some (pI l2)] [pR 1] LY nx (h, r, s) Q ↔ Wp 108 10 [some (pR 1), some (pI l1), some (pI l2)] [pR 144] LY nx (h, r, s) Q)) ∧
  (∀ (l1 : Int) (l2 : Int) (nx : Nat) (h r : PF) (s : Int → Int) (Q : PO → PY → Nat → PC → Prop), (Wp 108 10 [some (pR 1), some (pI l1), some (pI l2)] [pR 144] LY nx (h, r, s) Q ↔ Wp 108 11 [some (pR 1), some (pI l1), some (pI l2)] [pI l1, pR 144] LY nx (h, r, s) Q)) ∧
  (∀ (l1 : Int) (l2 : Int) (x1 : Int) (nx : Nat) (h r : PF) (s : Int → Int) (Q : PO → PY → Nat → PC → Prop), (Wp 108 11 [some (pR 1), some (pI l1), some (pI l2)] [pI x1, pR 144] LY nx (h, r, s) Q ↔ Wp 108 12 [some (pR 1), some (pI l1), some (pI l2)] [pI l2, pI x1, pR 144] LY nx (h, r, s) Q)) ∧
  (∀ (l1 : Int) (l2 : Int) (x1 : Int) (x2 : Int) (nx : Nat) (h r : PF) (s : Int → Int) (Q : PO → PY → Nat → PC → Prop), (Wp 108 12 [some (pR 1), some (pI l1), some (pI l2)] [pI x2, pI x1, pR 144] LY nx (h, r, s) Q ↔ Wp 71 0 [some (pR 144), some (pI x1), some (pI x2), none] [] LY nx (h, r, s) (Kc 108 12 [some (pR 1), some (pI l1), some (pI l2)] 15 [] Q))) ∧
  (∀ (l1 : Int) (l2 : Int) (x0 : Int) (nx : Nat) (h r : PF) (s : Int → Int) (Q : PO → PY → Nat → PC → Prop), (Wp 108 15 [some (pR 1), some (pI l1), some (pI l2)] [pI x0] LY nx (h, r, s) Q ↔ Q (Sum.inl (some (pI x0))) LY nx (h, r, s))) :=
  ⟨fun l1 l2 nx h r s Q  => o_iload_n (by decide +kernel : pcode 108 0 = some (6, 2, 0, 0, 0)) rfl,
  fun l1 l2 x0 nx h r s Q  => o_iconst (by decide +kernel : pcode 108 1 = some (1, 0, 0, 0, 0)),
  fun l1 l2 x0 x1 nx h r s Q  => o_iconst (by decide +kernel : pcode 108 2 = some (1, 0, 0, 0, 3)),
  fun l1 l2 x0 x1 x2 nx h r s Q  => o_ivS (s1 := [pI x2, pI x1, pI x0]) (s2 := []) (by decide +kernel : pcode 108 3 = some (77, 123, 3, 573, 69)) rfl (Nat.le_of_ble_eq_true rfl) rfl rfl rfl,
  fun l1 l2 nx h r s Q  => o_aload_n (by decide +kernel : pcode 108 6 = some (10, 0, 0, 0, 0)) rfl,
  fun l1 l2 nx h r s Q hw => o_getR (h := (h, r, s)) (by decide +kernel : pcode 108 7 = some (57, 446, 7, 4, 40)) (by decide) (by decide +kernel) (hw _ (List.mem_of_getElem? (i := 4) rfl)) (by decide),
  fun l1 l2 nx h r s Q  => o_iload_n (by decide +kernel : pcode 108 10 = some (6, 1, 0, 0, 0)) rfl,
  fun l1 l2 x1 nx h r s Q  => o_iload_n (by decide +kernel : pcode 108 11 = some (6, 2, 0, 0, 0)) rfl,
  fun l1 l2 x1 x2 nx h r s Q  => o_ivV (s1 := [pI x2, pI x1]) (s2 := []) (o := 144) (by decide +kernel : pcode 108 12 = some (78, 71, 3, 1081, 229)) rfl (Nat.le_of_ble_eq_true rfl) (by decide) (by decide +kernel) rfl rfl rfl,
  fun l1 l2 x0 nx h r s Q  => o_iret (by decide +kernel : pcode 108 15 = some (87, 0, 0, 0, 0))⟩
set_option maxHeartbeats 4000000 in
set_option maxRecDepth 10000 in
theorem st_X7_account :
  (∀ (l1 : Int) (nx : Nat) (h r : PF) (s : Int → Int) (Q : PO → PY → Nat → PC → Prop), (Wp 109 0 [some (pR 1), some (pI l1)] [] LY nx (h, r, s) Q ↔ Wp 109 1 [some (pR 1), some (pI l1)] [pI l1] LY nx (h, r, s) Q)) ∧
  (∀ (l1 : Int) (x0 : Int) (nx : Nat) (h r : PF) (s : Int → Int) (Q : PO → PY → Nat → PC → Prop), (Wp 109 1 [some (pR 1), some (pI l1)] [pI x0] LY nx (h, r, s) Q ↔ Wp 109 2 [some (pR 1), some (pI l1)] [pI 0, pI x0] LY nx (h, r, s) Q)) ∧
  (∀ (l1 : Int) (x0 : Int) (x1 : Int) (nx : Nat) (h r : PF) (s : Int → Int) (Q : PO → PY → Nat → PC → Prop), (Wp 109 2 [some (pR 1), some (pI l1)] [pI x1, pI x0] LY nx (h, r, s) Q ↔ Wp 109 3 [some (pR 1), some (pI l1)] [pI 5, pI x1, pI x0] LY nx (h, r, s) Q)) ∧
  (∀ (l1 : Int) (x0 : Int) (x1 : Int) (x2 : Int) (nx : Nat) (h r : PF) (s : Int → Int) (Q : PO → PY → Nat → PC → Prop), (Wp 109 3 [some (pR 1), some (pI l1)] [pI x2, pI x1, pI x0] LY nx (h, r, s) Q ↔ Wp 123 0 [some (pI x0), some (pI x1), some (pI x2)] [] LY nx (h, r, s) (Kc 109 3 [some (pR 1), some (pI l1)] 6 [] Q))) ∧
  (∀ (l1 : Int) (nx : Nat) (h r : PF) (s : Int → Int) (Q : PO → PY → Nat → PC → Prop), (Wp 109 6 [some (pR 1), some (pI l1)] [] LY nx (h, r, s) Q ↔ Wp 109 7 [some (pR 1), some (pI l1)] [pR 1] LY nx (h, r, s) Q)) ∧
  (∀ (l1 : Int) (nx : Nat) (h r : PF) (s : Int → Int) (Q : PO → PY → Nat → PC → Prop), WFr r → (Wp 109 7 [some (pR 1), some (pI l1)] [pR 1] LY nx (h, r, s) Q ↔ Wp 109 10 [some (pR 1), some (pI l1)] [pR 144] LY nx (h, r, s) Q)) ∧
  (∀ (l1 : Int) (nx : Nat) (h r : PF) (s : Int → Int) (Q : PO → PY → Nat → PC → Prop), WFr r → (Wp 109 10 [some (pR 1), some (pI l1)] [pR 144] LY nx (h, r, s) Q ↔ Wp 109 13 [some (pR 1), some (pI l1)] [pR 152] LY nx (h, r, s) Q)) ∧
  (∀ (l1 : Int) (nx : Nat) (h r : PF) (s : Int → Int) (Q : PO → PY → Nat → PC → Prop), (Wp 109 13 [some (pR 1), some (pI l1)] [pR 152] LY nx (h, r, s) Q ↔ Wp 109 14 [some (pR 1), some (pI l1)] [pI l1, pR 152] LY nx (h, r, s) Q)) ∧
  (∀ (l1 : Int) (x1 : Int) (nx : Nat) (h r : PF) (s : Int → Int) (Q : PO → PY → Nat → PC → Prop), 0 ≤ x1 → x1 < 6 → (Wp 109 14 [some (pR 1), some (pI l1)] [pI x1, pR 152] LY nx (h, r, s) Q ↔ Wp 109 15 [some (pR 1), some (pI l1)] [pI (h 152 x1)] LY nx (h, r, s) Q)) ∧
  (∀ (l1 : Int) (x0 : Int) (nx : Nat) (h r : PF) (s : Int → Int) (Q : PO → PY → Nat → PC → Prop), (Wp 109 15 [some (pR 1), some (pI l1)] [pI x0] LY nx (h, r, s) Q ↔ Q (Sum.inl (some (pI x0))) LY nx (h, r, s))) :=
  ⟨fun l1 nx h r s Q  => o_iload_n (by decide +kernel : pcode 109 0 = some (6, 1, 0, 0, 0)) rfl,
  fun l1 x0 nx h r s Q  => o_iconst (by decide +kernel : pcode 109 1 = some (1, 0, 0, 0, 0)),
  fun l1 x0 x1 nx h r s Q  => o_iconst (by decide +kernel : pcode 109 2 = some (1, 0, 0, 0, 5)),
  fun l1 x0 x1 x2 nx h r s Q  => o_ivS (s1 := [pI x2, pI x1, pI x0]) (s2 := []) (by decide +kernel : pcode 109 3 = some (77, 123, 3, 573, 69)) rfl (Nat.le_of_ble_eq_true rfl) rfl rfl rfl,
  fun l1 nx h r s Q  => o_aload_n (by decide +kernel : pcode 109 6 = some (10, 0, 0, 0, 0)) rfl,
  fun l1 nx h r s Q hw => o_getR (h := (h, r, s)) (by decide +kernel : pcode 109 7 = some (57, 446, 7, 4, 40)) (by decide) (by decide +kernel) (hw _ (List.mem_of_getElem? (i := 4) rfl)) (by decide),
  fun l1 nx h r s Q hw => o_getR (h := (h, r, s)) (by decide +kernel : pcode 109 10 = some (57, 294, 5, 7, 233)) (by decide) (by decide +kernel) (hw _ (List.mem_of_getElem? (i := 149) rfl)) (by decide),
  fun l1 nx h r s Q  => o_iload_n (by decide +kernel : pcode 109 13 = some (6, 1, 0, 0, 0)) rfl,
  fun l1 x1 nx h r s Q hi hn => o_iald (h := (h, r, s)) (n := 6) (by decide +kernel : pcode 109 14 = some (63, 0, 0, 0, 0)) (by decide) (by decide +kernel) hi hn,
  fun l1 x0 nx h r s Q  => o_iret (by decide +kernel : pcode 109 15 = some (87, 0, 0, 0, 0))⟩
set_option maxHeartbeats 4000000 in
set_option maxRecDepth 10000 in
theorem st_X7_play :
  (∀ (l1 : Int) (nx : Nat) (h r : PF) (s : Int → Int) (Q : PO → PY → Nat → PC → Prop), (Wp 110 0 [some (pR 1), some (pI l1)] [] LY nx (h, r, s) Q ↔ Wp 110 1 [some (pR 1), some (pI l1)] [pI l1] LY nx (h, r, s) Q)) ∧
  (∀ (l1 : Int) (x0 : Int) (nx : Nat) (h r : PF) (s : Int → Int) (Q : PO → PY → Nat → PC → Prop), (Wp 110 1 [some (pR 1), some (pI l1)] [pI x0] LY nx (h, r, s) Q ↔ Wp 110 2 [some (pR 1), some (pI l1)] [pI 1, pI x0] LY nx (h, r, s) Q)) ∧
  (∀ (l1 : Int) (x0 : Int) (x1 : Int) (nx : Nat) (h r : PF) (s : Int → Int) (Q : PO → PY → Nat → PC → Prop), (Wp 110 2 [some (pR 1), some (pI l1)] [pI x1, pI x0] LY nx (h, r, s) Q ↔ Wp 110 4 [some (pR 1), some (pI l1)] [pI 20, pI x1, pI x0] LY nx (h, r, s) Q)) ∧
  (∀ (l1 : Int) (x0 : Int) (x1 : Int) (x2 : Int) (nx : Nat) (h r : PF) (s : Int → Int) (Q : PO → PY → Nat → PC → Prop), (Wp 110 4 [some (pR 1), some (pI l1)] [pI x2, pI x1, pI x0] LY nx (h, r, s) Q ↔ Wp 123 0 [some (pI x0), some (pI x1), some (pI x2)] [] LY nx (h, r, s) (Kc 110 4 [some (pR 1), some (pI l1)] 7 [] Q))) ∧
  (∀ (l1 : Int) (nx : Nat) (h r : PF) (s : Int → Int) (Q : PO → PY → Nat → PC → Prop), (Wp 110 7 [some (pR 1), some (pI l1)] [] LY nx (h, r, s) Q ↔ Wp 110 8 [some (pR 1), some (pI l1)] [pR 1] LY nx (h, r, s) Q)) ∧
  (∀ (l1 : Int) (nx : Nat) (h r : PF) (s : Int → Int) (Q : PO → PY → Nat → PC → Prop), WFr r → (Wp 110 8 [some (pR 1), some (pI l1)] [pR 1] LY nx (h, r, s) Q ↔ Wp 110 11 [some (pR 1), some (pI l1)] [pR 144] LY nx (h, r, s) Q)) ∧
  (∀ (l1 : Int) (nx : Nat) (h r : PF) (s : Int → Int) (Q : PO → PY → Nat → PC → Prop), (Wp 110 11 [some (pR 1), some (pI l1)] [pR 144] LY nx (h, r, s) Q ↔ Wp 56 0 [some (pR 144)] [] LY nx (h, r, s) (Kc 110 11 [some (pR 1), some (pI l1)] 14 [] Q))) ∧
  (∀ (l1 : Int) (x0 : Int) (nx : Nat) (h r : PF) (s : Int → Int) (Q : PO → PY → Nat → PC → Prop), (Wp 110 14 [some (pR 1), some (pI l1)] [pI x0] LY nx (h, r, s) Q ↔ (if x0 ≠ 0 then Wp 110 21 [some (pR 1), some (pI l1)] [] LY nx (h, r, s) Q else Wp 110 17 [some (pR 1), some (pI l1)] [] LY nx (h, r, s) Q))) ∧
  (∀ (l1 : Int) (nx : Nat) (h r : PF) (s : Int → Int) (Q : PO → PY → Nat → PC → Prop), (Wp 110 17 [some (pR 1), some (pI l1)] [] LY nx (h, r, s) Q ↔ Wp 110 18 [some (pR 1), some (pI l1)] [pI 1] LY nx (h, r, s) Q)) ∧
  (∀ (l1 : Int) (x0 : Int) (nx : Nat) (h r : PF) (s : Int → Int) (Q : PO → PY → Nat → PC → Prop), (Wp 110 18 [some (pR 1), some (pI l1)] [pI x0] LY nx (h, r, s) Q ↔ Wp 110 22 [some (pR 1), some (pI l1)] [pI x0] LY nx (h, r, s) Q)) ∧
  (∀ (l1 : Int) (nx : Nat) (h r : PF) (s : Int → Int) (Q : PO → PY → Nat → PC → Prop), (Wp 110 21 [some (pR 1), some (pI l1)] [] LY nx (h, r, s) Q ↔ Wp 110 22 [some (pR 1), some (pI l1)] [pI 0] LY nx (h, r, s) Q)) ∧
  (∀ (l1 : Int) (x0 : Int) (nx : Nat) (h r : PF) (s : Int → Int) (Q : PO → PY → Nat → PC → Prop), (Wp 110 22 [some (pR 1), some (pI l1)] [pI x0] LY nx (h, r, s) Q ↔ Wp 124 0 [some (pI x0)] [] LY nx (h, r, s) (Kc 110 22 [some (pR 1), some (pI l1)] 25 [] Q))) ∧
  (∀ (l1 : Int) (nx : Nat) (h r : PF) (s : Int → Int) (Q : PO → PY → Nat → PC → Prop), (Wp 110 25 [some (pR 1), some (pI l1)] [] LY nx (h, r, s) Q ↔ Wp 110 26 [some (pR 1), some (pI l1)] [pR 1] LY nx (h, r, s) Q)) ∧
  (∀ (l1 : Int) (nx : Nat) (h r : PF) (s : Int → Int) (Q : PO → PY → Nat → PC → Prop), WFr r → (Wp 110 26 [some (pR 1), some (pI l1)] [pR 1] LY nx (h, r, s) Q ↔ Wp 110 29 [some (pR 1), some (pI l1)] [pR 21] LY nx (h, r, s) Q)) ∧
  (∀ (l1 : Int) (nx : Nat) (h r : PF) (s : Int → Int) (Q : PO → PY → Nat → PC → Prop), (Wp 110 29 [some (pR 1), some (pI l1)] [pR 21] LY nx (h, r, s) Q ↔ Wp 110 30 [some (pR 1), some (pI l1)] [pR 1, pR 21] LY nx (h, r, s) Q)) ∧
  (∀ (l1 : Int) (nx : Nat) (h r : PF) (s : Int → Int) (Q : PO → PY → Nat → PC → Prop), WFr r → (Wp 110 30 [some (pR 1), some (pI l1)] [pR 1, pR 21] LY nx (h, r, s) Q ↔ Wp 110 33 [some (pR 1), some (pI l1)] [pR 144, pR 21] LY nx (h, r, s) Q)) ∧
  (∀ (l1 : Int) (nx : Nat) (h r : PF) (s : Int → Int) (Q : PO → PY → Nat → PC → Prop), (Wp 110 33 [some (pR 1), some (pI l1)] [pR 144, pR 21] LY nx (h, r, s) Q ↔ Wp 13 0 [some (pR 21), some (pR 144)] [] LY nx (h, r, s) (Kc 110 33 [some (pR 1), some (pI l1)] 36 [] Q))) ∧
  (∀ (l1 : Int) (nx : Nat) (h r : PF) (s : Int → Int) (Q : PO → PY → Nat → PC → Prop), (Wp 110 36 [some (pR 1), some (pI l1)] [] LY nx (h, r, s) Q ↔ Wp 110 37 [some (pR 1), some (pI l1)] [pR 1] LY nx (h, r, s) Q)) ∧
  (∀ (l1 : Int) (nx : Nat) (h r : PF) (s : Int → Int) (Q : PO → PY → Nat → PC → Prop), WFr r → (Wp 110 37 [some (pR 1), some (pI l1)] [pR 1] LY nx (h, r, s) Q ↔ Wp 110 40 [some (pR 1), some (pI l1)] [pR 9] LY nx (h, r, s) Q)) ∧
  (∀ (l1 : Int) (nx : Nat) (h r : PF) (s : Int → Int) (Q : PO → PY → Nat → PC → Prop), (Wp 110 40 [some (pR 1), some (pI l1)] [pR 9] LY nx (h, r, s) Q ↔ Wp 110 41 [some (pR 1), some (pI l1)] [pR 1, pR 9] LY nx (h, r, s) Q)) ∧
  (∀ (l1 : Int) (nx : Nat) (h r : PF) (s : Int → Int) (Q : PO → PY → Nat → PC → Prop), 0 < (r 1 6) → (Wp 110 41 [some (pR 1), some (pI l1)] [pR 1, pR 9] LY nx (h, r, s) Q ↔ Wp 110 44 [some (pR 1), some (pI l1)] [pR (r 1 6), pR 9] LY nx (h, r, s) Q)) ∧
  (∀ (l1 : Int) (x1 : Int) (nx : Nat) (h r : PF) (s : Int → Int) (Q : PO → PY → Nat → PC → Prop), (Wp 110 44 [some (pR 1), some (pI l1)] [pR x1, pR 9] LY nx (h, r, s) Q ↔ Wp 110 45 [some (pR 1), some (pI l1)] [pR 1, pR x1, pR 9] LY nx (h, r, s) Q)) ∧
  (∀ (l1 : Int) (x1 : Int) (nx : Nat) (h r : PF) (s : Int → Int) (Q : PO → PY → Nat → PC → Prop), WFr r → (Wp 110 45 [some (pR 1), some (pI l1)] [pR 1, pR x1, pR 9] LY nx (h, r, s) Q ↔ Wp 110 48 [some (pR 1), some (pI l1)] [pR 144, pR x1, pR 9] LY nx (h, r, s) Q)) ∧
  (∀ (l1 : Int) (x1 : Int) (nx : Nat) (h r : PF) (s : Int → Int) (Q : PO → PY → Nat → PC → Prop), (Wp 110 48 [some (pR 1), some (pI l1)] [pR 144, pR x1, pR 9] LY nx (h, r, s) Q ↔ Wp 110 49 [some (pR 1), some (pI l1)] [pI l1, pR 144, pR x1, pR 9] LY nx (h, r, s) Q)) ∧
  (∀ (l1 : Int) (x1 : Int) (x3 : Int) (nx : Nat) (h r : PF) (s : Int → Int) (Q : PO → PY → Nat → PC → Prop), (Wp 110 49 [some (pR 1), some (pI l1)] [pI x3, pR 144, pR x1, pR 9] LY nx (h, r, s) Q ↔ Wp 9 0 [some (pR 9), some (pR x1), some (pR 144), some (pI x3), none, none] [] LY nx (h, r, s) (Kc 110 49 [some (pR 1), some (pI l1)] 52 [] Q))) ∧
  (∀ (l1 : Int) (x0 : Int) (nx : Nat) (h r : PF) (s : Int → Int) (Q : PO → PY → Nat → PC → Prop), (Wp 110 52 [some (pR 1), some (pI l1)] [pI x0] LY nx (h, r, s) Q ↔ Q (Sum.inl (some (pI x0))) LY nx (h, r, s))) :=
  ⟨fun l1 nx h r s Q  => o_iload_n (by decide +kernel : pcode 110 0 = some (6, 1, 0, 0, 0)) rfl,
  fun l1 x0 nx h r s Q  => o_iconst (by decide +kernel : pcode 110 1 = some (1, 0, 0, 0, 1)),
  fun l1 x0 x1 nx h r s Q  => o_bipush (by decide +kernel : pcode 110 2 = some (2, 0, 0, 0, 20)),
  fun l1 x0 x1 x2 nx h r s Q  => o_ivS (s1 := [pI x2, pI x1, pI x0]) (s2 := []) (by decide +kernel : pcode 110 4 = some (77, 123, 3, 573, 69)) rfl (Nat.le_of_ble_eq_true rfl) rfl rfl rfl,
  fun l1 nx h r s Q  => o_aload_n (by decide +kernel : pcode 110 7 = some (10, 0, 0, 0, 0)) rfl,
  fun l1 nx h r s Q hw => o_getR (h := (h, r, s)) (by decide +kernel : pcode 110 8 = some (57, 446, 7, 4, 40)) (by decide) (by decide +kernel) (hw _ (List.mem_of_getElem? (i := 4) rfl)) (by decide),
  fun l1 nx h r s Q  => o_ivV (s1 := []) (s2 := []) (o := 144) (by decide +kernel : pcode 110 11 = some (78, 56, 1, 1100, 236)) rfl (Nat.le_of_ble_eq_true rfl) (by decide) (by decide +kernel) rfl rfl rfl,
  fun l1 x0 nx h r s Q  => o_if_ne (by decide +kernel : pcode 110 14 = some (42, 21, 0, 0, 7)),
  fun l1 nx h r s Q  => o_iconst (by decide +kernel : pcode 110 17 = some (1, 0, 0, 0, 1)),
  fun l1 x0 nx h r s Q  => o_goto (by decide +kernel : pcode 110 18 = some (53, 22, 0, 0, 4)),
  fun l1 nx h r s Q  => o_iconst (by decide +kernel : pcode 110 21 = some (1, 0, 0, 0, 0)),
  fun l1 x0 nx h r s Q  => o_ivS (s1 := [pI x0]) (s2 := []) (by decide +kernel : pcode 110 22 = some (77, 124, 1, 1101, 240)) rfl (Nat.le_of_ble_eq_true rfl) rfl rfl rfl,
  fun l1 nx h r s Q  => o_aload_n (by decide +kernel : pcode 110 25 = some (10, 0, 0, 0, 0)) rfl,
  fun l1 nx h r s Q hw => o_getR (h := (h, r, s)) (by decide +kernel : pcode 110 26 = some (57, 445, 7, 3, 33)) (by decide) (by decide +kernel) (hw _ (List.mem_of_getElem? (i := 3) rfl)) (by decide),
  fun l1 nx h r s Q  => o_aload_n (by decide +kernel : pcode 110 29 = some (10, 0, 0, 0, 0)) rfl,
  fun l1 nx h r s Q hw => o_getR (h := (h, r, s)) (by decide +kernel : pcode 110 30 = some (57, 446, 7, 4, 40)) (by decide) (by decide +kernel) (hw _ (List.mem_of_getElem? (i := 4) rfl)) (by decide),
  fun l1 nx h r s Q  => o_ivV (s1 := [pR 144]) (s2 := []) (o := 21) (by decide +kernel : pcode 110 33 = some (78, 13, 2, 1119, 244)) rfl (Nat.le_of_ble_eq_true rfl) (by decide) (by decide +kernel) rfl rfl rfl,
  fun l1 nx h r s Q  => o_aload_n (by decide +kernel : pcode 110 36 = some (10, 0, 0, 0, 0)) rfl,
  fun l1 nx h r s Q hw => o_getR (h := (h, r, s)) (by decide +kernel : pcode 110 37 = some (57, 443, 7, 1, 19)) (by decide) (by decide +kernel) (hw _ (List.mem_of_getElem? (i := 1) rfl)) (by decide),
  fun l1 nx h r s Q  => o_aload_n (by decide +kernel : pcode 110 40 = some (10, 0, 0, 0, 0)) rfl,
  fun l1 nx h r s Q h9 => o_getR (h := (h, r, s)) (by decide +kernel : pcode 110 41 = some (57, 448, 7, 6, 50)) (by decide) (by decide +kernel) rfl h9,
  fun l1 x1 nx h r s Q  => o_aload_n (by decide +kernel : pcode 110 44 = some (10, 0, 0, 0, 0)) rfl,
  fun l1 x1 nx h r s Q hw => o_getR (h := (h, r, s)) (by decide +kernel : pcode 110 45 = some (57, 446, 7, 4, 40)) (by decide) (by decide +kernel) (hw _ (List.mem_of_getElem? (i := 4) rfl)) (by decide),
  fun l1 x1 nx h r s Q  => o_iload_n (by decide +kernel : pcode 110 48 = some (6, 1, 0, 0, 0)) rfl,
  fun l1 x1 x3 nx h r s Q  => o_ivV (s1 := [pI x3, pR 144, pR x1]) (s2 := []) (o := 9) (by decide +kernel : pcode 110 49 = some (78, 9, 4, 925, 197)) rfl (Nat.le_of_ble_eq_true rfl) (by decide) (by decide +kernel) rfl rfl rfl,
  fun l1 x0 nx h r s Q  => o_iret (by decide +kernel : pcode 110 52 = some (87, 0, 0, 0, 0))⟩
set_option maxHeartbeats 4000000 in
set_option maxRecDepth 10000 in
theorem st_X7_buy_0 :
  (∀ (l1 : Int) (l2 : Int) (nx : Nat) (h r : PF) (s : Int → Int) (Q : PO → PY → Nat → PC → Prop), (Wp 111 0 [some (pR 1), some (pI l1), some (pI l2), none] [] LY nx (h, r, s) Q ↔ Wp 111 1 [some (pR 1), some (pI l1), some (pI l2), none] [pR 1] LY nx (h, r, s) Q)) ∧
  (∀ (l1 : Int) (l2 : Int) (nx : Nat) (h r : PF) (s : Int → Int) (Q : PO → PY → Nat → PC → Prop), (Wp 111 1 [some (pR 1), some (pI l1), some (pI l2), none] [pR 1] LY nx (h, r, s) Q ↔ Wp 111 2 [some (pR 1), some (pI l1), some (pI l2), none] [pI l1, pR 1] LY nx (h, r, s) Q)) ∧
  (∀ (l1 : Int) (l2 : Int) (x1 : Int) (nx : Nat) (h r : PF) (s : Int → Int) (Q : PO → PY → Nat → PC → Prop), (Wp 111 2 [some (pR 1), some (pI l1), some (pI l2), none] [pI x1, pR 1] LY nx (h, r, s) Q ↔ Wp 118 0 [some (pR 1), some (pI x1)] [] LY nx (h, r, s) (Kc 111 2 [some (pR 1), some (pI l1), some (pI l2), none] 5 [] Q))) ∧
  (∀ (l1 : Int) (l2 : Int) (nx : Nat) (h r : PF) (s : Int → Int) (Q : PO → PY → Nat → PC → Prop), (Wp 111 5 [some (pR 1), some (pI l1), some (pI l2), none] [] LY nx (h, r, s) Q ↔ Wp 111 6 [some (pR 1), some (pI l1), some (pI l2), none] [pR 1] LY nx (h, r, s) Q)) ∧
  (∀ (l1 : Int) (l2 : Int) (nx : Nat) (h r : PF) (s : Int → Int) (Q : PO → PY → Nat → PC → Prop), (Wp 111 6 [some (pR 1), some (pI l1), some (pI l2), none] [pR 1] LY nx (h, r, s) Q ↔ Wp 111 7 [some (pR 1), some (pI l1), some (pI l2), none] [pI l2, pR 1] LY nx (h, r, s) Q)) ∧
  (∀ (l1 : Int) (l2 : Int) (x1 : Int) (nx : Nat) (h r : PF) (s : Int → Int) (Q : PO → PY → Nat → PC → Prop), (Wp 111 7 [some (pR 1), some (pI l1), some (pI l2), none] [pI x1, pR 1] LY nx (h, r, s) Q ↔ Wp 120 0 [some (pR 1), some (pI x1)] [] LY nx (h, r, s) (Kc 111 7 [some (pR 1), some (pI l1), some (pI l2), none] 10 [] Q))) ∧
  (∀ (l1 : Int) (l2 : Int) (nx : Nat) (h r : PF) (s : Int → Int) (Q : PO → PY → Nat → PC → Prop), (Wp 111 10 [some (pR 1), some (pI l1), some (pI l2), none] [] LY nx (h, r, s) Q ↔ Wp 111 11 [some (pR 1), some (pI l1), some (pI l2), none] [pR 1] LY nx (h, r, s) Q)) ∧
  (∀ (l1 : Int) (l2 : Int) (nx : Nat) (h r : PF) (s : Int → Int) (Q : PO → PY → Nat → PC → Prop), WFr r → (Wp 111 11 [some (pR 1), some (pI l1), some (pI l2), none] [pR 1] LY nx (h, r, s) Q ↔ Wp 111 14 [some (pR 1), some (pI l1), some (pI l2), none] [pR 144] LY nx (h, r, s) Q)) ∧
  (∀ (l1 : Int) (l2 : Int) (nx : Nat) (h r : PF) (s : Int → Int) (Q : PO → PY → Nat → PC → Prop), (Wp 111 14 [some (pR 1), some (pI l1), some (pI l2), none] [pR 144] LY nx (h, r, s) Q ↔ Wp 56 0 [some (pR 144)] [] LY nx (h, r, s) (Kc 111 14 [some (pR 1), some (pI l1), some (pI l2), none] 17 [] Q))) ∧
  (∀ (l1 : Int) (l2 : Int) (x0 : Int) (nx : Nat) (h r : PF) (s : Int → Int) (Q : PO → PY → Nat → PC → Prop), (Wp 111 17 [some (pR 1), some (pI l1), some (pI l2), none] [pI x0] LY nx (h, r, s) Q ↔ (if x0 ≠ 0 then Wp 111 61 [some (pR 1), some (pI l1), some (pI l2), none] [] LY nx (h, r, s) Q else Wp 111 20 [some (pR 1), some (pI l1), some (pI l2), none] [] LY nx (h, r, s) Q))) ∧
  (∀ (l1 : Int) (l2 : Int) (nx : Nat) (h r : PF) (s : Int → Int) (Q : PO → PY → Nat → PC → Prop), (Wp 111 20 [some (pR 1), some (pI l1), some (pI l2), none] [] LY nx (h, r, s) Q ↔ Wp 111 21 [some (pR 1), some (pI l1), some (pI l2), none] [pR 1] LY nx (h, r, s) Q)) ∧
  (∀ (l1 : Int) (l2 : Int) (nx : Nat) (h r : PF) (s : Int → Int) (Q : PO → PY → Nat → PC → Prop), WFr r → (Wp 111 21 [some (pR 1), some (pI l1), some (pI l2), none] [pR 1] LY nx (h, r, s) Q ↔ Wp 111 24 [some (pR 1), some (pI l1), some (pI l2), none] [pR 144] LY nx (h, r, s) Q)) ∧
  (∀ (l1 : Int) (l2 : Int) (nx : Nat) (h r : PF) (s : Int → Int) (Q : PO → PY → Nat → PC → Prop), (Wp 111 24 [some (pR 1), some (pI l1), some (pI l2), none] [pR 144] LY nx (h, r, s) Q ↔ Wp 111 25 [some (pR 1), some (pI l1), some (pI l2), none] [pR 1, pR 144] LY nx (h, r, s) Q)) ∧
  (∀ (l1 : Int) (l2 : Int) (nx : Nat) (h r : PF) (s : Int → Int) (Q : PO → PY → Nat → PC → Prop), 0 < (r 1 6) → (Wp 111 25 [some (pR 1), some (pI l1), some (pI l2), none] [pR 1, pR 144] LY nx (h, r, s) Q ↔ Wp 111 28 [some (pR 1), some (pI l1), some (pI l2), none] [pR (r 1 6), pR 144] LY nx (h, r, s) Q)) ∧
  (∀ (l1 : Int) (l2 : Int) (x1 : Int) (nx : Nat) (h r : PF) (s : Int → Int) (Q : PO → PY → Nat → PC → Prop), (Wp 111 28 [some (pR 1), some (pI l1), some (pI l2), none] [pR x1, pR 144] LY nx (h, r, s) Q ↔ Wp 111 29 [some (pR 1), some (pI l1), some (pI l2), none] [pI l1, pR x1, pR 144] LY nx (h, r, s) Q)) ∧
  (∀ (l1 : Int) (l2 : Int) (x1 : Int) (x2 : Int) (nx : Nat) (h r : PF) (s : Int → Int) (Q : PO → PY → Nat → PC → Prop), (Wp 111 29 [some (pR 1), some (pI l1), some (pI l2), none] [pI x2, pR x1, pR 144] LY nx (h, r, s) Q ↔ Wp 111 30 [some (pR 1), some (pI l1), some (pI l2), none] [pI l2, pI x2, pR x1, pR 144] LY nx (h, r, s) Q)) ∧
  (∀ (l1 : Int) (l2 : Int) (x1 : Int) (x2 : Int) (x3 : Int) (nx : Nat) (h r : PF) (s : Int → Int) (Q : PO → PY → Nat → PC → Prop), (Wp 111 30 [some (pR 1), some (pI l1), some (pI l2), none] [pI x3, pI x2, pR x1, pR 144] LY nx (h, r, s) Q ↔ Wp 58 0 [some (pR 144), some (pR x1), some (pI x2), some (pI x3), none] [] LY nx (h, r, s) (Kc 111 30 [some (pR 1), some (pI l1), some (pI l2), none] 33 [] Q))) ∧
  (∀ (l1 : Int) (l2 : Int) (x0 : Int) (nx : Nat) (h r : PF) (s : Int → Int) (Q : PO → PY → Nat → PC → Prop), (Wp 111 33 [some (pR 1), some (pI l1), some (pI l2), none] [pI x0] LY nx (h, r, s) Q ↔ (if x0 = 0 then Wp 111 61 [some (pR 1), some (pI l1), some (pI l2), none] [] LY nx (h, r, s) Q else Wp 111 36 [some (pR 1), some (pI l1), some (pI l2), none] [] LY nx (h, r, s) Q))) ∧
  (∀ (l1 : Int) (l2 : Int) (nx : Nat) (h r : PF) (s : Int → Int) (Q : PO → PY → Nat → PC → Prop), (Wp 111 36 [some (pR 1), some (pI l1), some (pI l2), none] [] LY nx (h, r, s) Q ↔ Wp 111 37 [some (pR 1), some (pI l1), some (pI l2), none] [pR 1] LY nx (h, r, s) Q)) ∧
  (∀ (l1 : Int) (l2 : Int) (nx : Nat) (h r : PF) (s : Int → Int) (Q : PO → PY → Nat → PC → Prop), WFr r → (Wp 111 37 [some (pR 1), some (pI l1), some (pI l2), none] [pR 1] LY nx (h, r, s) Q ↔ Wp 111 40 [some (pR 1), some (pI l1), some (pI l2), none] [pR 144] LY nx (h, r, s) Q)) ∧
  (∀ (l1 : Int) (l2 : Int) (nx : Nat) (h r : PF) (s : Int → Int) (Q : PO → PY → Nat → PC → Prop), WFr r → (Wp 111 40 [some (pR 1), some (pI l1), some (pI l2), none] [pR 144] LY nx (h, r, s) Q ↔ Wp 111 43 [some (pR 1), some (pI l1), some (pI l2), none] [pR 146] LY nx (h, r, s) Q)) ∧
  (∀ (l1 : Int) (l2 : Int) (nx : Nat) (h r : PF) (s : Int → Int) (Q : PO → PY → Nat → PC → Prop), (Wp 111 43 [some (pR 1), some (pI l1), some (pI l2), none] [pR 146] LY nx (h, r, s) Q ↔ Wp 111 44 [some (pR 1), some (pI l1), some (pI l2), none] [pI l1, pR 146] LY nx (h, r, s) Q)) ∧
  (∀ (l1 : Int) (l2 : Int) (x1 : Int) (nx : Nat) (h r : PF) (s : Int → Int) (Q : PO → PY → Nat → PC → Prop), 0 ≤ x1 → x1 < 4 → (Wp 111 44 [some (pR 1), some (pI l1), some (pI l2), none] [pI x1, pR 146] LY nx (h, r, s) Q ↔ Wp 111 45 [some (pR 1), some (pI l1), some (pI l2), none] [pI (h 146 x1)] LY nx (h, r, s) Q)) ∧
  (∀ (l1 : Int) (l2 : Int) (x0 : Int) (nx : Nat) (h r : PF) (s : Int → Int) (Q : PO → PY → Nat → PC → Prop), (Wp 111 45 [some (pR 1), some (pI l1), some (pI l2), none] [pI x0] LY nx (h, r, s) Q ↔ Wp 111 46 [some (pR 1), some (pI l1), some (pI l2), none] [pR 1, pI x0] LY nx (h, r, s) Q)) ∧
  (∀ (l1 : Int) (l2 : Int) (x0 : Int) (nx : Nat) (h r : PF) (s : Int → Int) (Q : PO → PY → Nat → PC → Prop), WFr r → (Wp 111 46 [some (pR 1), some (pI l1), some (pI l2), none] [pR 1, pI x0] LY nx (h, r, s) Q ↔ Wp 111 49 [some (pR 1), some (pI l1), some (pI l2), none] [pR 144, pI x0] LY nx (h, r, s) Q)) ∧
  (∀ (l1 : Int) (l2 : Int) (x0 : Int) (nx : Nat) (h r : PF) (s : Int → Int) (Q : PO → PY → Nat → PC → Prop), WFr r → (Wp 111 49 [some (pR 1), some (pI l1), some (pI l2), none] [pR 144, pI x0] LY nx (h, r, s) Q ↔ Wp 111 52 [some (pR 1), some (pI l1), some (pI l2), none] [pR 147, pI x0] LY nx (h, r, s) Q)) ∧
  (∀ (l1 : Int) (l2 : Int) (x0 : Int) (nx : Nat) (h r : PF) (s : Int → Int) (Q : PO → PY → Nat → PC → Prop), (Wp 111 52 [some (pR 1), some (pI l1), some (pI l2), none] [pR 147, pI x0] LY nx (h, r, s) Q ↔ Wp 111 53 [some (pR 1), some (pI l1), some (pI l2), none] [pI l1, pR 147, pI x0] LY nx (h, r, s) Q)) ∧
  (∀ (l1 : Int) (l2 : Int) (x0 : Int) (x2 : Int) (nx : Nat) (h r : PF) (s : Int → Int) (Q : PO → PY → Nat → PC → Prop), 0 ≤ x2 → x2 < 4 → (Wp 111 53 [some (pR 1), some (pI l1), some (pI l2), none] [pI x2, pR 147, pI x0] LY nx (h, r, s) Q ↔ Wp 111 54 [some (pR 1), some (pI l1), some (pI l2), none] [pI (h 147 x2), pI x0] LY nx (h, r, s) Q)) ∧
  (∀ (l1 : Int) (l2 : Int) (x0 : Int) (x1 : Int) (nx : Nat) (h r : PF) (s : Int → Int) (Q : PO → PY → Nat → PC → Prop), (Wp 111 54 [some (pR 1), some (pI l1), some (pI l2), none] [pI x1, pI x0] LY nx (h, r, s) Q ↔ (if x0 < x1 then Wp 111 61 [some (pR 1), some (pI l1), some (pI l2), none] [] LY nx (h, r, s) Q else Wp 111 57 [some (pR 1), some (pI l1), some (pI l2), none] [] LY nx (h, r, s) Q))) ∧
  (∀ (l1 : Int) (l2 : Int) (nx : Nat) (h r : PF) (s : Int → Int) (Q : PO → PY → Nat → PC → Prop), (Wp 111 57 [some (pR 1), some (pI l1), some (pI l2), none] [] LY nx (h, r, s) Q ↔ Wp 111 58 [some (pR 1), some (pI l1), some (pI l2), none] [pI 1] LY nx (h, r, s) Q)) ∧
  (∀ (l1 : Int) (l2 : Int) (x0 : Int) (nx : Nat) (h r : PF) (s : Int → Int) (Q : PO → PY → Nat → PC → Prop), (Wp 111 58 [some (pR 1), some (pI l1), some (pI l2), none] [pI x0] LY nx (h, r, s) Q ↔ Wp 111 62 [some (pR 1), some (pI l1), some (pI l2), none] [pI x0] LY nx (h, r, s) Q)) ∧
  (∀ (l1 : Int) (l2 : Int) (nx : Nat) (h r : PF) (s : Int → Int) (Q : PO → PY → Nat → PC → Prop), (Wp 111 61 [some (pR 1), some (pI l1), some (pI l2), none] [] LY nx (h, r, s) Q ↔ Wp 111 62 [some (pR 1), some (pI l1), some (pI l2), none] [pI 0] LY nx (h, r, s) Q)) ∧
  (∀ (l1 : Int) (l2 : Int) (x0 : Int) (nx : Nat) (h r : PF) (s : Int → Int) (Q : PO → PY → Nat → PC → Prop), (Wp 111 62 [some (pR 1), some (pI l1), some (pI l2), none] [pI x0] LY nx (h, r, s) Q ↔ Wp 124 0 [some (pI x0)] [] LY nx (h, r, s) (Kc 111 62 [some (pR 1), some (pI l1), some (pI l2), none] 65 [] Q))) ∧
  (∀ (l1 : Int) (l2 : Int) (nx : Nat) (h r : PF) (s : Int → Int) (Q : PO → PY → Nat → PC → Prop), (Wp 111 65 [some (pR 1), some (pI l1), some (pI l2), none] [] LY nx (h, r, s) Q ↔ Wp 111 66 [some (pR 1), some (pI l1), some (pI l2), none] [pR 1] LY nx (h, r, s) Q)) ∧
  (∀ (l1 : Int) (l2 : Int) (nx : Nat) (h r : PF) (s : Int → Int) (Q : PO → PY → Nat → PC → Prop), WFr r → (Wp 111 66 [some (pR 1), some (pI l1), some (pI l2), none] [pR 1] LY nx (h, r, s) Q ↔ Wp 111 69 [some (pR 1), some (pI l1), some (pI l2), none] [pR 21] LY nx (h, r, s) Q)) ∧
  (∀ (l1 : Int) (l2 : Int) (nx : Nat) (h r : PF) (s : Int → Int) (Q : PO → PY → Nat → PC → Prop), (Wp 111 69 [some (pR 1), some (pI l1), some (pI l2), none] [pR 21] LY nx (h, r, s) Q ↔ Wp 111 70 [some (pR 1), some (pI l1), some (pI l2), none] [pR 1, pR 21] LY nx (h, r, s) Q)) ∧
  (∀ (l1 : Int) (l2 : Int) (nx : Nat) (h r : PF) (s : Int → Int) (Q : PO → PY → Nat → PC → Prop), WFr r → (Wp 111 70 [some (pR 1), some (pI l1), some (pI l2), none] [pR 1, pR 21] LY nx (h, r, s) Q ↔ Wp 111 73 [some (pR 1), some (pI l1), some (pI l2), none] [pR 144, pR 21] LY nx (h, r, s) Q)) ∧
  (∀ (l1 : Int) (l2 : Int) (nx : Nat) (h r : PF) (s : Int → Int) (Q : PO → PY → Nat → PC → Prop), (Wp 111 73 [some (pR 1), some (pI l1), some (pI l2), none] [pR 144, pR 21] LY nx (h, r, s) Q ↔ Wp 13 0 [some (pR 21), some (pR 144)] [] LY nx (h, r, s) (Kc 111 73 [some (pR 1), some (pI l1), some (pI l2), none] 76 [] Q))) ∧
  (∀ (l1 : Int) (l2 : Int) (nx : Nat) (h r : PF) (s : Int → Int) (Q : PO → PY → Nat → PC → Prop), (Wp 111 76 [some (pR 1), some (pI l1), some (pI l2), none] [] LY nx (h, r, s) Q ↔ Wp 111 77 [some (pR 1), some (pI l1), some (pI l2), none] [pR 1] LY nx (h, r, s) Q)) ∧
  (∀ (l1 : Int) (l2 : Int) (nx : Nat) (h r : PF) (s : Int → Int) (Q : PO → PY → Nat → PC → Prop), WFr r → (Wp 111 77 [some (pR 1), some (pI l1), some (pI l2), none] [pR 1] LY nx (h, r, s) Q ↔ Wp 111 80 [some (pR 1), some (pI l1), some (pI l2), none] [pR 144] LY nx (h, r, s) Q)) ∧
  (∀ (l1 : Int) (l2 : Int) (nx : Nat) (h r : PF) (s : Int → Int) (Q : PO → PY → Nat → PC → Prop), WFr r → (Wp 111 80 [some (pR 1), some (pI l1), some (pI l2), none] [pR 144] LY nx (h, r, s) Q ↔ Wp 111 83 [some (pR 1), some (pI l1), some (pI l2), none] [pR 147] LY nx (h, r, s) Q)) ∧
  (∀ (l1 : Int) (l2 : Int) (nx : Nat) (h r : PF) (s : Int → Int) (Q : PO → PY → Nat → PC → Prop), (Wp 111 83 [some (pR 1), some (pI l1), some (pI l2), none] [pR 147] LY nx (h, r, s) Q ↔ Wp 111 84 [some (pR 1), some (pI l1), some (pI l2), none] [pI l1, pR 147] LY nx (h, r, s) Q)) ∧
  (∀ (l1 : Int) (l2 : Int) (x1 : Int) (nx : Nat) (h r : PF) (s : Int → Int) (Q : PO → PY → Nat → PC → Prop), 0 ≤ x1 → x1 < 4 → (Wp 111 84 [some (pR 1), some (pI l1), some (pI l2), none] [pI x1, pR 147] LY nx (h, r, s) Q ↔ Wp 111 85 [some (pR 1), some (pI l1), some (pI l2), none] [pI (h 147 x1)] LY nx (h, r, s) Q)) ∧
  (∀ (l1 : Int) (l2 : Int) (x0 : Int) (nx : Nat) (h r : PF) (s : Int → Int) (Q : PO → PY → Nat → PC → Prop), (Wp 111 85 [some (pR 1), some (pI l1), some (pI l2), none] [pI x0] LY nx (h, r, s) Q ↔ Wp 111 86 [some (pR 1), some (pI l1), some (pI l2), some (pI x0)] [] LY nx (h, r, s) Q)) ∧
  (∀ (l1 : Int) (l2 : Int) (l3 : Int) (nx : Nat) (h r : PF) (s : Int → Int) (Q : PO → PY → Nat → PC → Prop), (Wp 111 86 [some (pR 1), some (pI l1), some (pI l2), some (pI l3)] [] LY nx (h, r, s) Q ↔ Wp 111 87 [some (pR 1), some (pI l1), some (pI l2), some (pI l3)] [pR 1] LY nx (h, r, s) Q)) ∧
  (∀ (l1 : Int) (l2 : Int) (l3 : Int) (nx : Nat) (h r : PF) (s : Int → Int) (Q : PO → PY → Nat → PC → Prop), WFr r → (Wp 111 87 [some (pR 1), some (pI l1), some (pI l2), some (pI l3)] [pR 1] LY nx (h, r, s) Q ↔ Wp 111 90 [some (pR 1), some (pI l1), some (pI l2), some (pI l3)] [pR 144] LY nx (h, r, s) Q)) ∧
  (∀ (l1 : Int) (l2 : Int) (l3 : Int) (nx : Nat) (h r : PF) (s : Int → Int) (Q : PO → PY → Nat → PC → Prop), (Wp 111 90 [some (pR 1), some (pI l1), some (pI l2), some (pI l3)] [pR 144] LY nx (h, r, s) Q ↔ Wp 111 91 [some (pR 1), some (pI l1), some (pI l2), some (pI l3)] [pI l2, pR 144] LY nx (h, r, s) Q)) ∧
  (∀ (l1 : Int) (l2 : Int) (l3 : Int) (x1 : Int) (nx : Nat) (h r : PF) (s : Int → Int) (Q : PO → PY → Nat → PC → Prop), (Wp 111 91 [some (pR 1), some (pI l1), some (pI l2), some (pI l3)] [pI x1, pR 144] LY nx (h, r, s) Q ↔ Wp 111 92 [some (pR 1), some (pI l1), some (pI l2), some (pI l3)] [pI l3, pI x1, pR 144] LY nx (h, r, s) Q)) ∧
  (∀ (l1 : Int) (l2 : Int) (l3 : Int) (x1 : Int) (x2 : Int) (nx : Nat) (h r : PF) (s : Int → Int) (Q : PO → PY → Nat → PC → Prop), (Wp 111 92 [some (pR 1), some (pI l1), some (pI l2), some (pI l3)] [pI x2, pI x1, pR 144] LY nx (h, r, s) Q ↔ Wp 111 93 [some (pR 1), some (pI l1), some (pI l2), some (pI l3)] [pI 1, pI x2, pI x1, pR 144] LY nx (h, r, s) Q)) ∧
  (∀ (l1 : Int) (l2 : Int) (l3 : Int) (x1 : Int) (x2 : Int) (x3 : Int) (nx : Nat) (h r : PF) (s : Int → Int) (Q : PO → PY → Nat → PC → Prop), (Wp 111 93 [some (pR 1), some (pI l1), some (pI l2), some (pI l3)] [pI x3, pI x2, pI x1, pR 144] LY nx (h, r, s) Q ↔ Wp 111 94 [some (pR 1), some (pI l1), some (pI l2), some (pI l3)] [pI l1, pI x3, pI x2, pI x1, pR 144] LY nx (h, r, s) Q)) ∧
  (∀ (l1 : Int) (l2 : Int) (l3 : Int) (x1 : Int) (x2 : Int) (x3 : Int) (x4 : Int) (nx : Nat) (h r : PF) (s : Int → Int) (Q : PO → PY → Nat → PC → Prop), (Wp 111 94 [some (pR 1), some (pI l1), some (pI l2), some (pI l3)] [pI x4, pI x3, pI x2, pI x1, pR 144] LY nx (h, r, s) Q ↔ Wp 111 95 [some (pR 1), some (pI l1), some (pI l2), some (pI l3)] [pI (pshl x3 x4), pI x2, pI x1, pR 144] LY nx (h, r, s) Q)) ∧
  (∀ (l1 : Int) (l2 : Int) (l3 : Int) (x1 : Int) (x2 : Int) (x3 : Int) (nx : Nat) (h r : PF) (s : Int → Int) (Q : PO → PY → Nat → PC → Prop), (Wp 111 95 [some (pR 1), some (pI l1), some (pI l2), some (pI l3)] [pI x3, pI x2, pI x1, pR 144] LY nx (h, r, s) Q ↔ Wp 70 0 [some (pR 144), some (pI x1), some (pI x2), some (pI x3), none] [] LY nx (h, r, s) (Kc 111 95 [some (pR 1), some (pI l1), some (pI l2), some (pI l3)] 98 [] Q))) ∧
  (∀ (l1 : Int) (l2 : Int) (l3 : Int) (nx : Nat) (h r : PF) (s : Int → Int) (Q : PO → PY → Nat → PC → Prop), (Wp 111 98 [some (pR 1), some (pI l1), some (pI l2), some (pI l3)] [] LY nx (h, r, s) Q ↔ Wp 111 99 [some (pR 1), some (pI l1), some (pI l2), some (pI l3)] [pR 1] LY nx (h, r, s) Q)) ∧
  (∀ (l1 : Int) (l2 : Int) (l3 : Int) (nx : Nat) (h r : PF) (s : Int → Int) (Q : PO → PY → Nat → PC → Prop), WFr r → (Wp 111 99 [some (pR 1), some (pI l1), some (pI l2), some (pI l3)] [pR 1] LY nx (h, r, s) Q ↔ Wp 111 102 [some (pR 1), some (pI l1), some (pI l2), some (pI l3)] [pR 144] LY nx (h, r, s) Q)) ∧
  (∀ (l1 : Int) (l2 : Int) (l3 : Int) (nx : Nat) (h r : PF) (s : Int → Int) (Q : PO → PY → Nat → PC → Prop), (Wp 111 102 [some (pR 1), some (pI l1), some (pI l2), some (pI l3)] [pR 144] LY nx (h, r, s) Q ↔ Wp 111 103 [some (pR 1), some (pI l1), some (pI l2), some (pI l3)] [pI l1, pR 144] LY nx (h, r, s) Q)) ∧
  (∀ (l1 : Int) (l2 : Int) (l3 : Int) (x1 : Int) (nx : Nat) (h r : PF) (s : Int → Int) (Q : PO → PY → Nat → PC → Prop), (Wp 111 103 [some (pR 1), some (pI l1), some (pI l2), some (pI l3)] [pI x1, pR 144] LY nx (h, r, s) Q ↔ Wp 111 104 [some (pR 1), some (pI l1), some (pI l2), some (pI l3)] [pI l3, pI x1, pR 144] LY nx (h, r, s) Q)) ∧
  (∀ (l1 : Int) (l2 : Int) (l3 : Int) (x1 : Int) (x2 : Int) (nx : Nat) (h r : PF) (s : Int → Int) (Q : PO → PY → Nat → PC → Prop), (Wp 111 104 [some (pR 1), some (pI l1), some (pI l2), some (pI l3)] [pI x2, pI x1, pR 144] LY nx (h, r, s) Q ↔ Wp 111 105 [some (pR 1), some (pI l1), some (pI l2), some (pI l3)] [pI 1, pI x2, pI x1, pR 144] LY nx (h, r, s) Q)) ∧
  (∀ (l1 : Int) (l2 : Int) (l3 : Int) (x1 : Int) (x2 : Int) (x3 : Int) (nx : Nat) (h r : PF) (s : Int → Int) (Q : PO → PY → Nat → PC → Prop), (Wp 111 105 [some (pR 1), some (pI l1), some (pI l2), some (pI l3)] [pI x3, pI x2, pI x1, pR 144] LY nx (h, r, s) Q ↔ Wp 64 0 [some (pR 144), some (pI x1), some (pI x2), some (pI x3)] [] LY nx (h, r, s) (Kc 111 105 [some (pR 1), some (pI l1), some (pI l2), some (pI l3)] 108 [] Q))) ∧
  (∀ (l1 : Int) (l2 : Int) (l3 : Int) (nx : Nat) (h r : PF) (s : Int → Int) (Q : PO → PY → Nat → PC → Prop), (Wp 111 108 [some (pR 1), some (pI l1), some (pI l2), some (pI l3)] [] LY nx (h, r, s) Q ↔ Wp 111 109 [some (pR 1), some (pI l1), some (pI l2), some (pI l3)] [pR 1] LY nx (h, r, s) Q)) ∧
  (∀ (l1 : Int) (l2 : Int) (l3 : Int) (nx : Nat) (h r : PF) (s : Int → Int) (Q : PO → PY → Nat → PC → Prop), WFr r → (Wp 111 109 [some (pR 1), some (pI l1), some (pI l2), some (pI l3)] [pR 1] LY nx (h, r, s) Q ↔ Wp 111 112 [some (pR 1), some (pI l1), some (pI l2), some (pI l3)] [pR 144] LY nx (h, r, s) Q)) :=
  ⟨fun l1 l2 nx h r s Q  => o_aload_n (by decide +kernel : pcode 111 0 = some (10, 0, 0, 0, 0)) rfl,
  fun l1 l2 nx h r s Q  => o_iload_n (by decide +kernel : pcode 111 1 = some (6, 1, 0, 0, 0)) rfl,
  fun l1 l2 x1 nx h r s Q  => o_ivV (s1 := [pI x1]) (s2 := []) (o := 1) (by decide +kernel : pcode 111 2 = some (78, 118, 2, 816, 116)) rfl (Nat.le_of_ble_eq_true rfl) (by decide) (by decide +kernel) rfl rfl rfl,
  fun l1 l2 nx h r s Q  => o_aload_n (by decide +kernel : pcode 111 5 = some (10, 0, 0, 0, 0)) rfl,
  fun l1 l2 nx h r s Q  => o_iload_n (by decide +kernel : pcode 111 6 = some (6, 2, 0, 0, 0)) rfl,
  fun l1 l2 x1 nx h r s Q  => o_ivV (s1 := [pI x1]) (s2 := []) (o := 1) (by decide +kernel : pcode 111 7 = some (78, 120, 2, 865, 153)) rfl (Nat.le_of_ble_eq_true rfl) (by decide) (by decide +kernel) rfl rfl rfl,
  fun l1 l2 nx h r s Q  => o_aload_n (by decide +kernel : pcode 111 10 = some (10, 0, 0, 0, 0)) rfl,
  fun l1 l2 nx h r s Q hw => o_getR (h := (h, r, s)) (by decide +kernel : pcode 111 11 = some (57, 446, 7, 4, 40)) (by decide) (by decide +kernel) (hw _ (List.mem_of_getElem? (i := 4) rfl)) (by decide),
  fun l1 l2 nx h r s Q  => o_ivV (s1 := []) (s2 := []) (o := 144) (by decide +kernel : pcode 111 14 = some (78, 56, 1, 1100, 236)) rfl (Nat.le_of_ble_eq_true rfl) (by decide) (by decide +kernel) rfl rfl rfl,
  fun l1 l2 x0 nx h r s Q  => o_if_ne (by decide +kernel : pcode 111 17 = some (42, 61, 0, 0, 44)),
  fun l1 l2 nx h r s Q  => o_aload_n (by decide +kernel : pcode 111 20 = some (10, 0, 0, 0, 0)) rfl,
  fun l1 l2 nx h r s Q hw => o_getR (h := (h, r, s)) (by decide +kernel : pcode 111 21 = some (57, 446, 7, 4, 40)) (by decide) (by decide +kernel) (hw _ (List.mem_of_getElem? (i := 4) rfl)) (by decide),
  fun l1 l2 nx h r s Q  => o_aload_n (by decide +kernel : pcode 111 24 = some (10, 0, 0, 0, 0)) rfl,
  fun l1 l2 nx h r s Q h9 => o_getR (h := (h, r, s)) (by decide +kernel : pcode 111 25 = some (57, 448, 7, 6, 50)) (by decide) (by decide +kernel) rfl h9,
  fun l1 l2 x1 nx h r s Q  => o_iload_n (by decide +kernel : pcode 111 28 = some (6, 1, 0, 0, 0)) rfl,
  fun l1 l2 x1 x2 nx h r s Q  => o_iload_n (by decide +kernel : pcode 111 29 = some (6, 2, 0, 0, 0)) rfl,
  fun l1 l2 x1 x2 x3 nx h r s Q  => o_ivV (s1 := [pI x3, pI x2, pR x1]) (s2 := []) (o := 144) (by decide +kernel : pcode 111 30 = some (78, 58, 4, 1131, 247)) rfl (Nat.le_of_ble_eq_true rfl) (by decide) (by decide +kernel) rfl rfl rfl,
  fun l1 l2 x0 nx h r s Q  => o_if_eq (by decide +kernel : pcode 111 33 = some (41, 61, 0, 0, 28)),
  fun l1 l2 nx h r s Q  => o_aload_n (by decide +kernel : pcode 111 36 = some (10, 0, 0, 0, 0)) rfl,
  fun l1 l2 nx h r s Q hw => o_getR (h := (h, r, s)) (by decide +kernel : pcode 111 37 = some (57, 446, 7, 4, 40)) (by decide) (by decide +kernel) (hw _ (List.mem_of_getElem? (i := 4) rfl)) (by decide),
  fun l1 l2 nx h r s Q hw => o_getR (h := (h, r, s)) (by decide +kernel : pcode 111 40 = some (57, 280, 5, 1, 123)) (by decide) (by decide +kernel) (hw _ (List.mem_of_getElem? (i := 143) rfl)) (by decide),
  fun l1 l2 nx h r s Q  => o_iload_n (by decide +kernel : pcode 111 43 = some (6, 1, 0, 0, 0)) rfl,
  fun l1 l2 x1 nx h r s Q hi hn => o_iald (h := (h, r, s)) (n := 4) (by decide +kernel : pcode 111 44 = some (63, 0, 0, 0, 0)) (by decide) (by decide +kernel) hi hn,
  fun l1 l2 x0 nx h r s Q  => o_aload_n (by decide +kernel : pcode 111 45 = some (10, 0, 0, 0, 0)) rfl,
  fun l1 l2 x0 nx h r s Q hw => o_getR (h := (h, r, s)) (by decide +kernel : pcode 111 46 = some (57, 446, 7, 4, 40)) (by decide) (by decide +kernel) (hw _ (List.mem_of_getElem? (i := 4) rfl)) (by decide),
  fun l1 l2 x0 nx h r s Q hw => o_getR (h := (h, r, s)) (by decide +kernel : pcode 111 49 = some (57, 282, 5, 2, 126)) (by decide) (by decide +kernel) (hw _ (List.mem_of_getElem? (i := 144) rfl)) (by decide),
  fun l1 l2 x0 nx h r s Q  => o_iload_n (by decide +kernel : pcode 111 52 = some (6, 1, 0, 0, 0)) rfl,
  fun l1 l2 x0 x2 nx h r s Q hi hn => o_iald (h := (h, r, s)) (n := 4) (by decide +kernel : pcode 111 53 = some (63, 0, 0, 0, 0)) (by decide) (by decide +kernel) hi hn,
  fun l1 l2 x0 x1 nx h r s Q  => o_icmp_lt (by decide +kernel : pcode 111 54 = some (49, 61, 0, 0, 7)),
  fun l1 l2 nx h r s Q  => o_iconst (by decide +kernel : pcode 111 57 = some (1, 0, 0, 0, 1)),
  fun l1 l2 x0 nx h r s Q  => o_goto (by decide +kernel : pcode 111 58 = some (53, 62, 0, 0, 4)),
  fun l1 l2 nx h r s Q  => o_iconst (by decide +kernel : pcode 111 61 = some (1, 0, 0, 0, 0)),
  fun l1 l2 x0 nx h r s Q  => o_ivS (s1 := [pI x0]) (s2 := []) (by decide +kernel : pcode 111 62 = some (77, 124, 1, 1101, 240)) rfl (Nat.le_of_ble_eq_true rfl) rfl rfl rfl,
  fun l1 l2 nx h r s Q  => o_aload_n (by decide +kernel : pcode 111 65 = some (10, 0, 0, 0, 0)) rfl,
  fun l1 l2 nx h r s Q hw => o_getR (h := (h, r, s)) (by decide +kernel : pcode 111 66 = some (57, 445, 7, 3, 33)) (by decide) (by decide +kernel) (hw _ (List.mem_of_getElem? (i := 3) rfl)) (by decide),
  fun l1 l2 nx h r s Q  => o_aload_n (by decide +kernel : pcode 111 69 = some (10, 0, 0, 0, 0)) rfl,
  fun l1 l2 nx h r s Q hw => o_getR (h := (h, r, s)) (by decide +kernel : pcode 111 70 = some (57, 446, 7, 4, 40)) (by decide) (by decide +kernel) (hw _ (List.mem_of_getElem? (i := 4) rfl)) (by decide),
  fun l1 l2 nx h r s Q  => o_ivV (s1 := [pR 144]) (s2 := []) (o := 21) (by decide +kernel : pcode 111 73 = some (78, 13, 2, 1119, 244)) rfl (Nat.le_of_ble_eq_true rfl) (by decide) (by decide +kernel) rfl rfl rfl,
  fun l1 l2 nx h r s Q  => o_aload_n (by decide +kernel : pcode 111 76 = some (10, 0, 0, 0, 0)) rfl,
  fun l1 l2 nx h r s Q hw => o_getR (h := (h, r, s)) (by decide +kernel : pcode 111 77 = some (57, 446, 7, 4, 40)) (by decide) (by decide +kernel) (hw _ (List.mem_of_getElem? (i := 4) rfl)) (by decide),
  fun l1 l2 nx h r s Q hw => o_getR (h := (h, r, s)) (by decide +kernel : pcode 111 80 = some (57, 282, 5, 2, 126)) (by decide) (by decide +kernel) (hw _ (List.mem_of_getElem? (i := 144) rfl)) (by decide),
  fun l1 l2 nx h r s Q  => o_iload_n (by decide +kernel : pcode 111 83 = some (6, 1, 0, 0, 0)) rfl,
  fun l1 l2 x1 nx h r s Q hi hn => o_iald (h := (h, r, s)) (n := 4) (by decide +kernel : pcode 111 84 = some (63, 0, 0, 0, 0)) (by decide) (by decide +kernel) hi hn,
  fun l1 l2 x0 nx h r s Q  => o_istore_n (by decide +kernel : pcode 111 85 = some (12, 3, 0, 0, 0)) rfl,
  fun l1 l2 l3 nx h r s Q  => o_aload_n (by decide +kernel : pcode 111 86 = some (10, 0, 0, 0, 0)) rfl,
  fun l1 l2 l3 nx h r s Q hw => o_getR (h := (h, r, s)) (by decide +kernel : pcode 111 87 = some (57, 446, 7, 4, 40)) (by decide) (by decide +kernel) (hw _ (List.mem_of_getElem? (i := 4) rfl)) (by decide),
  fun l1 l2 l3 nx h r s Q  => o_iload_n (by decide +kernel : pcode 111 90 = some (6, 2, 0, 0, 0)) rfl,
  fun l1 l2 l3 x1 nx h r s Q  => o_iload_n (by decide +kernel : pcode 111 91 = some (6, 3, 0, 0, 0)) rfl,
  fun l1 l2 l3 x1 x2 nx h r s Q  => o_iconst (by decide +kernel : pcode 111 92 = some (1, 0, 0, 0, 1)),
  fun l1 l2 l3 x1 x2 x3 nx h r s Q  => o_iload_n (by decide +kernel : pcode 111 93 = some (6, 1, 0, 0, 0)) rfl,
  fun l1 l2 l3 x1 x2 x3 x4 nx h r s Q  => o_ishl (by decide +kernel : pcode 111 94 = some (26, 0, 0, 0, 0)),
  fun l1 l2 l3 x1 x2 x3 nx h r s Q  => o_ivV (s1 := [pI x3, pI x2, pI x1]) (s2 := []) (o := 144) (by decide +kernel : pcode 111 95 = some (78, 70, 4, 1132, 251)) rfl (Nat.le_of_ble_eq_true rfl) (by decide) (by decide +kernel) rfl rfl rfl,
  fun l1 l2 l3 nx h r s Q  => o_aload_n (by decide +kernel : pcode 111 98 = some (10, 0, 0, 0, 0)) rfl,
  fun l1 l2 l3 nx h r s Q hw => o_getR (h := (h, r, s)) (by decide +kernel : pcode 111 99 = some (57, 446, 7, 4, 40)) (by decide) (by decide +kernel) (hw _ (List.mem_of_getElem? (i := 4) rfl)) (by decide),
  fun l1 l2 l3 nx h r s Q  => o_iload_n (by decide +kernel : pcode 111 102 = some (6, 1, 0, 0, 0)) rfl,
  fun l1 l2 l3 x1 nx h r s Q  => o_iload_n (by decide +kernel : pcode 111 103 = some (6, 3, 0, 0, 0)) rfl,
  fun l1 l2 l3 x1 x2 nx h r s Q  => o_iconst (by decide +kernel : pcode 111 104 = some (1, 0, 0, 0, 1)),
  fun l1 l2 l3 x1 x2 x3 nx h r s Q  => o_ivV (s1 := [pI x3, pI x2, pI x1]) (s2 := []) (o := 144) (by decide +kernel : pcode 111 105 = some (78, 64, 4, 1133, 254)) rfl (Nat.le_of_ble_eq_true rfl) (by decide) (by decide +kernel) rfl rfl rfl,
  fun l1 l2 l3 nx h r s Q  => o_aload_n (by decide +kernel : pcode 111 108 = some (10, 0, 0, 0, 0)) rfl,
  fun l1 l2 l3 nx h r s Q hw => o_getR (h := (h, r, s)) (by decide +kernel : pcode 111 109 = some (57, 446, 7, 4, 40)) (by decide) (by decide +kernel) (hw _ (List.mem_of_getElem? (i := 4) rfl)) (by decide)⟩
set_option maxHeartbeats 4000000 in
set_option maxRecDepth 10000 in
theorem st_X7_buy_1 :
  (∀ (l1 : Int) (l2 : Int) (l3 : Int) (nx : Nat) (h r : PF) (s : Int → Int) (Q : PO → PY → Nat → PC → Prop), (Wp 111 112 [some (pR 1), some (pI l1), some (pI l2), some (pI l3)] [pR 144] LY nx (h, r, s) Q ↔ Wp 111 113 [some (pR 1), some (pI l1), some (pI l2), some (pI l3)] [pR 1, pR 144] LY nx (h, r, s) Q)) ∧
  (∀ (l1 : Int) (l2 : Int) (l3 : Int) (nx : Nat) (h r : PF) (s : Int → Int) (Q : PO → PY → Nat → PC → Prop), 0 < (r 1 6) → (Wp 111 113 [some (pR 1), some (pI l1), some (pI l2), some (pI l3)] [pR 1, pR 144] LY nx (h, r, s) Q ↔ Wp 111 116 [some (pR 1), some (pI l1), some (pI l2), some (pI l3)] [pR (r 1 6), pR 144] LY nx (h, r, s) Q)) ∧
  (∀ (l1 : Int) (l2 : Int) (l3 : Int) (x1 : Int) (nx : Nat) (h r : PF) (s : Int → Int) (Q : PO → PY → Nat → PC → Prop), (Wp 111 116 [some (pR 1), some (pI l1), some (pI l2), some (pI l3)] [pR x1, pR 144] LY nx (h, r, s) Q ↔ Wp 111 117 [some (pR 1), some (pI l1), some (pI l2), some (pI l3)] [pI l2, pR x1, pR 144] LY nx (h, r, s) Q)) ∧
  (∀ (l1 : Int) (l2 : Int) (l3 : Int) (x1 : Int) (x2 : Int) (nx : Nat) (h r : PF) (s : Int → Int) (Q : PO → PY → Nat → PC → Prop), (Wp 111 117 [some (pR 1), some (pI l1), some (pI l2), some (pI l3)] [pI x2, pR x1, pR 144] LY nx (h, r, s) Q ↔ Wp 111 118 [some (pR 1), some (pI l1), some (pI l2), some (pI l3)] [pI 1, pI x2, pR x1, pR 144] LY nx (h, r, s) Q)) ∧
  (∀ (l1 : Int) (l2 : Int) (l3 : Int) (x1 : Int) (x2 : Int) (x3 : Int) (nx : Nat) (h r : PF) (s : Int → Int) (Q : PO → PY → Nat → PC → Prop), (Wp 111 118 [some (pR 1), some (pI l1), some (pI l2), some (pI l3)] [pI x3, pI x2, pR x1, pR 144] LY nx (h, r, s) Q ↔ Wp 111 119 [some (pR 1), some (pI l1), some (pI l2), some (pI l3)] [pI l1, pI x3, pI x2, pR x1, pR 144] LY nx (h, r, s) Q)) ∧
  (∀ (l1 : Int) (l2 : Int) (l3 : Int) (x1 : Int) (x2 : Int) (x3 : Int) (x4 : Int) (nx : Nat) (h r : PF) (s : Int → Int) (Q : PO → PY → Nat → PC → Prop), (Wp 111 119 [some (pR 1), some (pI l1), some (pI l2), some (pI l3)] [pI x4, pI x3, pI x2, pR x1, pR 144] LY nx (h, r, s) Q ↔ Wp 111 120 [some (pR 1), some (pI l1), some (pI l2), some (pI l3)] [pI (pshl x3 x4), pI x2, pR x1, pR 144] LY nx (h, r, s) Q)) ∧
  (∀ (l1 : Int) (l2 : Int) (l3 : Int) (x1 : Int) (x2 : Int) (x3 : Int) (nx : Nat) (h r : PF) (s : Int → Int) (Q : PO → PY → Nat → PC → Prop), (Wp 111 120 [some (pR 1), some (pI l1), some (pI l2), some (pI l3)] [pI x3, pI x2, pR x1, pR 144] LY nx (h, r, s) Q ↔ Wp 61 0 [some (pR 144), some (pR x1), some (pI x2), some (pI x3), none] [] LY nx (h, r, s) (Kc 111 120 [some (pR 1), some (pI l1), some (pI l2), some (pI l3)] 123 [] Q))) ∧
  (∀ (l1 : Int) (l2 : Int) (l3 : Int) (nx : Nat) (h r : PF) (s : Int → Int) (Q : PO → PY → Nat → PC → Prop), (Wp 111 123 [some (pR 1), some (pI l1), some (pI l2), some (pI l3)] [] LY nx (h, r, s) Q ↔ Wp 111 124 [some (pR 1), some (pI l1), some (pI l2), some (pI l3)] [pR 1] LY nx (h, r, s) Q)) ∧
  (∀ (l1 : Int) (l2 : Int) (l3 : Int) (nx : Nat) (h r : PF) (s : Int → Int) (Q : PO → PY → Nat → PC → Prop), WFr r → (Wp 111 124 [some (pR 1), some (pI l1), some (pI l2), some (pI l3)] [pR 1] LY nx (h, r, s) Q ↔ Wp 111 127 [some (pR 1), some (pI l1), some (pI l2), some (pI l3)] [pR 144] LY nx (h, r, s) Q)) ∧
  (∀ (l1 : Int) (l2 : Int) (l3 : Int) (nx : Nat) (h r : PF) (s : Int → Int) (Q : PO → PY → Nat → PC → Prop), (Wp 111 127 [some (pR 1), some (pI l1), some (pI l2), some (pI l3)] [pR 144] LY nx (h, r, s) Q ↔ Wp 111 130 [some (pR 1), some (pI l1), some (pI l2), some (pI l3)] [pI (h 144 8)] LY nx (h, r, s) Q)) ∧
  (∀ (l1 : Int) (l2 : Int) (l3 : Int) (x0 : Int) (nx : Nat) (h r : PF) (s : Int → Int) (Q : PO → PY → Nat → PC → Prop), (Wp 111 130 [some (pR 1), some (pI l1), some (pI l2), some (pI l3)] [pI x0] LY nx (h, r, s) Q ↔ Q (Sum.inl (some (pI x0))) LY nx (h, r, s))) :=
  ⟨fun l1 l2 l3 nx h r s Q  => o_aload_n (by decide +kernel : pcode 111 112 = some (10, 0, 0, 0, 0)) rfl,
  fun l1 l2 l3 nx h r s Q h9 => o_getR (h := (h, r, s)) (by decide +kernel : pcode 111 113 = some (57, 448, 7, 6, 50)) (by decide) (by decide +kernel) rfl h9,
  fun l1 l2 l3 x1 nx h r s Q  => o_iload_n (by decide +kernel : pcode 111 116 = some (6, 2, 0, 0, 0)) rfl,
  fun l1 l2 l3 x1 x2 nx h r s Q  => o_iconst (by decide +kernel : pcode 111 117 = some (1, 0, 0, 0, 1)),
  fun l1 l2 l3 x1 x2 x3 nx h r s Q  => o_iload_n (by decide +kernel : pcode 111 118 = some (6, 1, 0, 0, 0)) rfl,
  fun l1 l2 l3 x1 x2 x3 x4 nx h r s Q  => o_ishl (by decide +kernel : pcode 111 119 = some (26, 0, 0, 0, 0)),
  fun l1 l2 l3 x1 x2 x3 nx h r s Q  => o_ivV (s1 := [pI x3, pI x2, pR x1]) (s2 := []) (o := 144) (by decide +kernel : pcode 111 120 = some (78, 61, 4, 1134, 257)) rfl (Nat.le_of_ble_eq_true rfl) (by decide) (by decide +kernel) rfl rfl rfl,
  fun l1 l2 l3 nx h r s Q  => o_aload_n (by decide +kernel : pcode 111 123 = some (10, 0, 0, 0, 0)) rfl,
  fun l1 l2 l3 nx h r s Q hw => o_getR (h := (h, r, s)) (by decide +kernel : pcode 111 124 = some (57, 446, 7, 4, 40)) (by decide) (by decide +kernel) (hw _ (List.mem_of_getElem? (i := 4) rfl)) (by decide),
  fun l1 l2 l3 nx h r s Q  => o_getI (by decide +kernel : pcode 111 127 = some (55, 296, 5, 8, 92)) (by decide) (by decide +kernel),
  fun l1 l2 l3 x0 nx h r s Q  => o_iret (by decide +kernel : pcode 111 130 = some (87, 0, 0, 0, 0))⟩
set_option maxHeartbeats 4000000 in
set_option maxRecDepth 10000 in
theorem st_X7_reset :
  (∀ (l1 : Int) (nx : Nat) (h r : PF) (s : Int → Int) (Q : PO → PY → Nat → PC → Prop), (Wp 112 0 [some (pR 1), some (pI l1), none] [] LY nx (h, r, s) Q ↔ Wp 112 1 [some (pR 1), some (pI l1), none] [pR 1] LY nx (h, r, s) Q)) ∧
  (∀ (l1 : Int) (nx : Nat) (h r : PF) (s : Int → Int) (Q : PO → PY → Nat → PC → Prop), (Wp 112 1 [some (pR 1), some (pI l1), none] [pR 1] LY nx (h, r, s) Q ↔ Wp 112 2 [some (pR 1), some (pI l1), none] [pI l1, pR 1] LY nx (h, r, s) Q)) ∧
  (∀ (l1 : Int) (x1 : Int) (nx : Nat) (h r : PF) (s : Int → Int) (Q : PO → PY → Nat → PC → Prop), (Wp 112 2 [some (pR 1), some (pI l1), none] [pI x1, pR 1] LY nx (h, r, s) Q ↔ Wp 118 0 [some (pR 1), some (pI x1)] [] LY nx (h, r, s) (Kc 112 2 [some (pR 1), some (pI l1), none] 5 [] Q))) ∧
  (∀ (l1 : Int) (nx : Nat) (h r : PF) (s : Int → Int) (Q : PO → PY → Nat → PC → Prop), (Wp 112 5 [some (pR 1), some (pI l1), none] [] LY nx (h, r, s) Q ↔ Wp 112 6 [some (pR 1), some (pI l1), none] [pI 2] LY nx (h, r, s) Q)) ∧
  (∀ (l1 : Int) (x0 : Int) (nx : Nat) (h r : PF) (s : Int → Int) (Q : PO → PY → Nat → PC → Prop), (Wp 112 6 [some (pR 1), some (pI l1), none] [pI x0] LY nx (h, r, s) Q ↔ Wp 112 7 [some (pR 1), some (pI l1), none] [pR 1, pI x0] LY nx (h, r, s) Q)) ∧
  (∀ (l1 : Int) (x0 : Int) (nx : Nat) (h r : PF) (s : Int → Int) (Q : PO → PY → Nat → PC → Prop), 0 < (r 1 6) → (Wp 112 7 [some (pR 1), some (pI l1), none] [pR 1, pI x0] LY nx (h, r, s) Q ↔ Wp 112 10 [some (pR 1), some (pI l1), none] [pR (r 1 6), pI x0] LY nx (h, r, s) Q)) ∧
  (∀ (l1 : Int) (x0 : Int) (x1 : Int) (nx : Nat) (h r : PF) (s : Int → Int) (Q : PO → PY → Nat → PC → Prop), 0 < x1 → kd LY x1 = (0, 2) → (Wp 112 10 [some (pR 1), some (pI l1), none] [pR x1, pI x0] LY nx (h, r, s) Q ↔ Wp 112 13 [some (pR 1), some (pI l1), none] [pI (h x1 4), pI x0] LY nx (h, r, s) Q)) ∧
  (∀ (l1 : Int) (x0 : Int) (x1 : Int) (nx : Nat) (h r : PF) (s : Int → Int) (Q : PO → PY → Nat → PC → Prop), (Wp 112 13 [some (pR 1), some (pI l1), none] [pI x1, pI x0] LY nx (h, r, s) Q ↔ Wp 112 14 [some (pR 1), some (pI l1), none] [pI (w32 (x0 * x1))] LY nx (h, r, s) Q)) ∧
  (∀ (l1 : Int) (x0 : Int) (nx : Nat) (h r : PF) (s : Int → Int) (Q : PO → PY → Nat → PC → Prop), (Wp 112 14 [some (pR 1), some (pI l1), none] [pI x0] LY nx (h, r, s) Q ↔ Wp 112 15 [some (pR 1), some (pI l1), some (pI x0)] [] LY nx (h, r, s) Q)) ∧
  (∀ (l1 : Int) (l2 : Int) (nx : Nat) (h r : PF) (s : Int → Int) (Q : PO → PY → Nat → PC → Prop), (Wp 112 15 [some (pR 1), some (pI l1), some (pI l2)] [] LY nx (h, r, s) Q ↔ Wp 112 16 [some (pR 1), some (pI l1), some (pI l2)] [pR 1] LY nx (h, r, s) Q)) ∧
  (∀ (l1 : Int) (l2 : Int) (nx : Nat) (h r : PF) (s : Int → Int) (Q : PO → PY → Nat → PC → Prop), WFr r → (Wp 112 16 [some (pR 1), some (pI l1), some (pI l2)] [pR 1] LY nx (h, r, s) Q ↔ Wp 112 19 [some (pR 1), some (pI l1), some (pI l2)] [pR 144] LY nx (h, r, s) Q)) ∧
  (∀ (l1 : Int) (l2 : Int) (nx : Nat) (h r : PF) (s : Int → Int) (Q : PO → PY → Nat → PC → Prop), WFr r → (Wp 112 19 [some (pR 1), some (pI l1), some (pI l2)] [pR 144] LY nx (h, r, s) Q ↔ Wp 112 22 [some (pR 1), some (pI l1), some (pI l2)] [pR 146] LY nx (h, r, s) Q)) ∧
  (∀ (l1 : Int) (l2 : Int) (nx : Nat) (h r : PF) (s : Int → Int) (Q : PO → PY → Nat → PC → Prop), (Wp 112 22 [some (pR 1), some (pI l1), some (pI l2)] [pR 146] LY nx (h, r, s) Q ↔ Wp 112 23 [some (pR 1), some (pI l1), some (pI l2)] [pI l1, pR 146] LY nx (h, r, s) Q)) ∧
  (∀ (l1 : Int) (l2 : Int) (x1 : Int) (nx : Nat) (h r : PF) (s : Int → Int) (Q : PO → PY → Nat → PC → Prop), 0 ≤ x1 → x1 < 4 → (Wp 112 23 [some (pR 1), some (pI l1), some (pI l2)] [pI x1, pR 146] LY nx (h, r, s) Q ↔ Wp 112 24 [some (pR 1), some (pI l1), some (pI l2)] [pI (h 146 x1)] LY nx (h, r, s) Q)) ∧
  (∀ (l1 : Int) (l2 : Int) (x0 : Int) (nx : Nat) (h r : PF) (s : Int → Int) (Q : PO → PY → Nat → PC → Prop), (Wp 112 24 [some (pR 1), some (pI l1), some (pI l2)] [pI x0] LY nx (h, r, s) Q ↔ Wp 112 25 [some (pR 1), some (pI l1), some (pI l2)] [pI l2, pI x0] LY nx (h, r, s) Q)) ∧
  (∀ (l1 : Int) (l2 : Int) (x0 : Int) (x1 : Int) (nx : Nat) (h r : PF) (s : Int → Int) (Q : PO → PY → Nat → PC → Prop), (Wp 112 25 [some (pR 1), some (pI l1), some (pI l2)] [pI x1, pI x0] LY nx (h, r, s) Q ↔ (if x0 < x1 then Wp 112 32 [some (pR 1), some (pI l1), some (pI l2)] [] LY nx (h, r, s) Q else Wp 112 28 [some (pR 1), some (pI l1), some (pI l2)] [] LY nx (h, r, s) Q))) ∧
  (∀ (l1 : Int) (l2 : Int) (nx : Nat) (h r : PF) (s : Int → Int) (Q : PO → PY → Nat → PC → Prop), (Wp 112 28 [some (pR 1), some (pI l1), some (pI l2)] [] LY nx (h, r, s) Q ↔ Wp 112 29 [some (pR 1), some (pI l1), some (pI l2)] [pI 1] LY nx (h, r, s) Q)) ∧
  (∀ (l1 : Int) (l2 : Int) (x0 : Int) (nx : Nat) (h r : PF) (s : Int → Int) (Q : PO → PY → Nat → PC → Prop), (Wp 112 29 [some (pR 1), some (pI l1), some (pI l2)] [pI x0] LY nx (h, r, s) Q ↔ Wp 112 33 [some (pR 1), some (pI l1), some (pI l2)] [pI x0] LY nx (h, r, s) Q)) ∧
  (∀ (l1 : Int) (l2 : Int) (nx : Nat) (h r : PF) (s : Int → Int) (Q : PO → PY → Nat → PC → Prop), (Wp 112 32 [some (pR 1), some (pI l1), some (pI l2)] [] LY nx (h, r, s) Q ↔ Wp 112 33 [some (pR 1), some (pI l1), some (pI l2)] [pI 0] LY nx (h, r, s) Q)) ∧
  (∀ (l1 : Int) (l2 : Int) (x0 : Int) (nx : Nat) (h r : PF) (s : Int → Int) (Q : PO → PY → Nat → PC → Prop), (Wp 112 33 [some (pR 1), some (pI l1), some (pI l2)] [pI x0] LY nx (h, r, s) Q ↔ Wp 124 0 [some (pI x0)] [] LY nx (h, r, s) (Kc 112 33 [some (pR 1), some (pI l1), some (pI l2)] 36 [] Q))) ∧
  (∀ (l1 : Int) (l2 : Int) (nx : Nat) (h r : PF) (s : Int → Int) (Q : PO → PY → Nat → PC → Prop), (Wp 112 36 [some (pR 1), some (pI l1), some (pI l2)] [] LY nx (h, r, s) Q ↔ Wp 112 37 [some (pR 1), some (pI l1), some (pI l2)] [pR 1] LY nx (h, r, s) Q)) ∧
  (∀ (l1 : Int) (l2 : Int) (nx : Nat) (h r : PF) (s : Int → Int) (Q : PO → PY → Nat → PC → Prop), WFr r → (Wp 112 37 [some (pR 1), some (pI l1), some (pI l2)] [pR 1] LY nx (h, r, s) Q ↔ Wp 112 40 [some (pR 1), some (pI l1), some (pI l2)] [pR 21] LY nx (h, r, s) Q)) ∧
  (∀ (l1 : Int) (l2 : Int) (nx : Nat) (h r : PF) (s : Int → Int) (Q : PO → PY → Nat → PC → Prop), (Wp 112 40 [some (pR 1), some (pI l1), some (pI l2)] [pR 21] LY nx (h, r, s) Q ↔ Wp 112 41 [some (pR 1), some (pI l1), some (pI l2)] [pR 1, pR 21] LY nx (h, r, s) Q)) ∧
  (∀ (l1 : Int) (l2 : Int) (nx : Nat) (h r : PF) (s : Int → Int) (Q : PO → PY → Nat → PC → Prop), WFr r → (Wp 112 41 [some (pR 1), some (pI l1), some (pI l2)] [pR 1, pR 21] LY nx (h, r, s) Q ↔ Wp 112 44 [some (pR 1), some (pI l1), some (pI l2)] [pR 144, pR 21] LY nx (h, r, s) Q)) ∧
  (∀ (l1 : Int) (l2 : Int) (nx : Nat) (h r : PF) (s : Int → Int) (Q : PO → PY → Nat → PC → Prop), (Wp 112 44 [some (pR 1), some (pI l1), some (pI l2)] [pR 144, pR 21] LY nx (h, r, s) Q ↔ Wp 13 0 [some (pR 21), some (pR 144)] [] LY nx (h, r, s) (Kc 112 44 [some (pR 1), some (pI l1), some (pI l2)] 47 [] Q))) ∧
  (∀ (l1 : Int) (l2 : Int) (nx : Nat) (h r : PF) (s : Int → Int) (Q : PO → PY → Nat → PC → Prop), (Wp 112 47 [some (pR 1), some (pI l1), some (pI l2)] [] LY nx (h, r, s) Q ↔ Wp 112 48 [some (pR 1), some (pI l1), some (pI l2)] [pR 1] LY nx (h, r, s) Q)) ∧
  (∀ (l1 : Int) (l2 : Int) (nx : Nat) (h r : PF) (s : Int → Int) (Q : PO → PY → Nat → PC → Prop), WFr r → (Wp 112 48 [some (pR 1), some (pI l1), some (pI l2)] [pR 1] LY nx (h, r, s) Q ↔ Wp 112 51 [some (pR 1), some (pI l1), some (pI l2)] [pR 144] LY nx (h, r, s) Q)) ∧
  (∀ (l1 : Int) (l2 : Int) (nx : Nat) (h r : PF) (s : Int → Int) (Q : PO → PY → Nat → PC → Prop), (Wp 112 51 [some (pR 1), some (pI l1), some (pI l2)] [pR 144] LY nx (h, r, s) Q ↔ Wp 112 52 [some (pR 1), some (pI l1), some (pI l2)] [pR 1, pR 144] LY nx (h, r, s) Q)) ∧
  (∀ (l1 : Int) (l2 : Int) (nx : Nat) (h r : PF) (s : Int → Int) (Q : PO → PY → Nat → PC → Prop), 0 < (r 1 6) → (Wp 112 52 [some (pR 1), some (pI l1), some (pI l2)] [pR 1, pR 144] LY nx (h, r, s) Q ↔ Wp 112 55 [some (pR 1), some (pI l1), some (pI l2)] [pR (r 1 6), pR 144] LY nx (h, r, s) Q)) ∧
  (∀ (l1 : Int) (l2 : Int) (x1 : Int) (nx : Nat) (h r : PF) (s : Int → Int) (Q : PO → PY → Nat → PC → Prop), (Wp 112 55 [some (pR 1), some (pI l1), some (pI l2)] [pR x1, pR 144] LY nx (h, r, s) Q ↔ Wp 112 56 [some (pR 1), some (pI l1), some (pI l2)] [pI l1, pR x1, pR 144] LY nx (h, r, s) Q)) ∧
  (∀ (l1 : Int) (l2 : Int) (x1 : Int) (x2 : Int) (nx : Nat) (h r : PF) (s : Int → Int) (Q : PO → PY → Nat → PC → Prop), (Wp 112 56 [some (pR 1), some (pI l1), some (pI l2)] [pI x2, pR x1, pR 144] LY nx (h, r, s) Q ↔ Wp 112 57 [some (pR 1), some (pI l1), some (pI l2)] [pI l2, pI x2, pR x1, pR 144] LY nx (h, r, s) Q)) ∧
  (∀ (l1 : Int) (l2 : Int) (x1 : Int) (x2 : Int) (x3 : Int) (nx : Nat) (h r : PF) (s : Int → Int) (Q : PO → PY → Nat → PC → Prop), (Wp 112 57 [some (pR 1), some (pI l1), some (pI l2)] [pI x3, pI x2, pR x1, pR 144] LY nx (h, r, s) Q ↔ Wp 65 0 [some (pR 144), some (pR x1), some (pI x2), some (pI x3)] [] LY nx (h, r, s) (Kc 112 57 [some (pR 1), some (pI l1), some (pI l2)] 60 [] Q))) ∧
  (∀ (l1 : Int) (l2 : Int) (nx : Nat) (h r : PF) (s : Int → Int) (Q : PO → PY → Nat → PC → Prop), (Wp 112 60 [some (pR 1), some (pI l1), some (pI l2)] [] LY nx (h, r, s) Q ↔ Wp 112 61 [some (pR 1), some (pI l1), some (pI l2)] [pR 1] LY nx (h, r, s) Q)) ∧
  (∀ (l1 : Int) (l2 : Int) (nx : Nat) (h r : PF) (s : Int → Int) (Q : PO → PY → Nat → PC → Prop), WFr r → (Wp 112 61 [some (pR 1), some (pI l1), some (pI l2)] [pR 1] LY nx (h, r, s) Q ↔ Wp 112 64 [some (pR 1), some (pI l1), some (pI l2)] [pR 144] LY nx (h, r, s) Q)) ∧
  (∀ (l1 : Int) (l2 : Int) (nx : Nat) (h r : PF) (s : Int → Int) (Q : PO → PY → Nat → PC → Prop), WFr r → (Wp 112 64 [some (pR 1), some (pI l1), some (pI l2)] [pR 144] LY nx (h, r, s) Q ↔ Wp 112 67 [some (pR 1), some (pI l1), some (pI l2)] [pR 146] LY nx (h, r, s) Q)) ∧
  (∀ (l1 : Int) (l2 : Int) (nx : Nat) (h r : PF) (s : Int → Int) (Q : PO → PY → Nat → PC → Prop), (Wp 112 67 [some (pR 1), some (pI l1), some (pI l2)] [pR 146] LY nx (h, r, s) Q ↔ Wp 112 68 [some (pR 1), some (pI l1), some (pI l2)] [pI l1, pR 146] LY nx (h, r, s) Q)) ∧
  (∀ (l1 : Int) (l2 : Int) (x1 : Int) (nx : Nat) (h r : PF) (s : Int → Int) (Q : PO → PY → Nat → PC → Prop), 0 ≤ x1 → x1 < 4 → (Wp 112 68 [some (pR 1), some (pI l1), some (pI l2)] [pI x1, pR 146] LY nx (h, r, s) Q ↔ Wp 112 69 [some (pR 1), some (pI l1), some (pI l2)] [pI (h 146 x1)] LY nx (h, r, s) Q)) ∧
  (∀ (l1 : Int) (l2 : Int) (x0 : Int) (nx : Nat) (h r : PF) (s : Int → Int) (Q : PO → PY → Nat → PC → Prop), (Wp 112 69 [some (pR 1), some (pI l1), some (pI l2)] [pI x0] LY nx (h, r, s) Q ↔ Q (Sum.inl (some (pI x0))) LY nx (h, r, s))) :=
  ⟨fun l1 nx h r s Q  => o_aload_n (by decide +kernel : pcode 112 0 = some (10, 0, 0, 0, 0)) rfl,
  fun l1 nx h r s Q  => o_iload_n (by decide +kernel : pcode 112 1 = some (6, 1, 0, 0, 0)) rfl,
  fun l1 x1 nx h r s Q  => o_ivV (s1 := [pI x1]) (s2 := []) (o := 1) (by decide +kernel : pcode 112 2 = some (78, 118, 2, 816, 116)) rfl (Nat.le_of_ble_eq_true rfl) (by decide) (by decide +kernel) rfl rfl rfl,
  fun l1 nx h r s Q  => o_iconst (by decide +kernel : pcode 112 5 = some (1, 0, 0, 0, 2)),
  fun l1 x0 nx h r s Q  => o_aload_n (by decide +kernel : pcode 112 6 = some (10, 0, 0, 0, 0)) rfl,
  fun l1 x0 nx h r s Q h9 => o_getR (h := (h, r, s)) (by decide +kernel : pcode 112 7 = some (57, 448, 7, 6, 50)) (by decide) (by decide +kernel) rfl h9,
  fun l1 x0 x1 nx h r s Q h0 hk => o_getI (by decide +kernel : pcode 112 10 = some (55, 388, 2, 4, 107)) h0 hk,
  fun l1 x0 x1 nx h r s Q  => o_imul (by decide +kernel : pcode 112 13 = some (21, 0, 0, 0, 0)),
  fun l1 x0 nx h r s Q  => o_istore_n (by decide +kernel : pcode 112 14 = some (12, 2, 0, 0, 0)) rfl,
  fun l1 l2 nx h r s Q  => o_aload_n (by decide +kernel : pcode 112 15 = some (10, 0, 0, 0, 0)) rfl,
  fun l1 l2 nx h r s Q hw => o_getR (h := (h, r, s)) (by decide +kernel : pcode 112 16 = some (57, 446, 7, 4, 40)) (by decide) (by decide +kernel) (hw _ (List.mem_of_getElem? (i := 4) rfl)) (by decide),
  fun l1 l2 nx h r s Q hw => o_getR (h := (h, r, s)) (by decide +kernel : pcode 112 19 = some (57, 280, 5, 1, 123)) (by decide) (by decide +kernel) (hw _ (List.mem_of_getElem? (i := 143) rfl)) (by decide),
  fun l1 l2 nx h r s Q  => o_iload_n (by decide +kernel : pcode 112 22 = some (6, 1, 0, 0, 0)) rfl,
  fun l1 l2 x1 nx h r s Q hi hn => o_iald (h := (h, r, s)) (n := 4) (by decide +kernel : pcode 112 23 = some (63, 0, 0, 0, 0)) (by decide) (by decide +kernel) hi hn,
  fun l1 l2 x0 nx h r s Q  => o_iload_n (by decide +kernel : pcode 112 24 = some (6, 2, 0, 0, 0)) rfl,
  fun l1 l2 x0 x1 nx h r s Q  => o_icmp_lt (by decide +kernel : pcode 112 25 = some (49, 32, 0, 0, 7)),
  fun l1 l2 nx h r s Q  => o_iconst (by decide +kernel : pcode 112 28 = some (1, 0, 0, 0, 1)),
  fun l1 l2 x0 nx h r s Q  => o_goto (by decide +kernel : pcode 112 29 = some (53, 33, 0, 0, 4)),
  fun l1 l2 nx h r s Q  => o_iconst (by decide +kernel : pcode 112 32 = some (1, 0, 0, 0, 0)),
  fun l1 l2 x0 nx h r s Q  => o_ivS (s1 := [pI x0]) (s2 := []) (by decide +kernel : pcode 112 33 = some (77, 124, 1, 1101, 240)) rfl (Nat.le_of_ble_eq_true rfl) rfl rfl rfl,
  fun l1 l2 nx h r s Q  => o_aload_n (by decide +kernel : pcode 112 36 = some (10, 0, 0, 0, 0)) rfl,
  fun l1 l2 nx h r s Q hw => o_getR (h := (h, r, s)) (by decide +kernel : pcode 112 37 = some (57, 445, 7, 3, 33)) (by decide) (by decide +kernel) (hw _ (List.mem_of_getElem? (i := 3) rfl)) (by decide),
  fun l1 l2 nx h r s Q  => o_aload_n (by decide +kernel : pcode 112 40 = some (10, 0, 0, 0, 0)) rfl,
  fun l1 l2 nx h r s Q hw => o_getR (h := (h, r, s)) (by decide +kernel : pcode 112 41 = some (57, 446, 7, 4, 40)) (by decide) (by decide +kernel) (hw _ (List.mem_of_getElem? (i := 4) rfl)) (by decide),
  fun l1 l2 nx h r s Q  => o_ivV (s1 := [pR 144]) (s2 := []) (o := 21) (by decide +kernel : pcode 112 44 = some (78, 13, 2, 1119, 244)) rfl (Nat.le_of_ble_eq_true rfl) (by decide) (by decide +kernel) rfl rfl rfl,
  fun l1 l2 nx h r s Q  => o_aload_n (by decide +kernel : pcode 112 47 = some (10, 0, 0, 0, 0)) rfl,
  fun l1 l2 nx h r s Q hw => o_getR (h := (h, r, s)) (by decide +kernel : pcode 112 48 = some (57, 446, 7, 4, 40)) (by decide) (by decide +kernel) (hw _ (List.mem_of_getElem? (i := 4) rfl)) (by decide),
  fun l1 l2 nx h r s Q  => o_aload_n (by decide +kernel : pcode 112 51 = some (10, 0, 0, 0, 0)) rfl,
  fun l1 l2 nx h r s Q h9 => o_getR (h := (h, r, s)) (by decide +kernel : pcode 112 52 = some (57, 448, 7, 6, 50)) (by decide) (by decide +kernel) rfl h9,
  fun l1 l2 x1 nx h r s Q  => o_iload_n (by decide +kernel : pcode 112 55 = some (6, 1, 0, 0, 0)) rfl,
  fun l1 l2 x1 x2 nx h r s Q  => o_iload_n (by decide +kernel : pcode 112 56 = some (6, 2, 0, 0, 0)) rfl,
  fun l1 l2 x1 x2 x3 nx h r s Q  => o_ivV (s1 := [pI x3, pI x2, pR x1]) (s2 := []) (o := 144) (by decide +kernel : pcode 112 57 = some (78, 65, 4, 1142, 261)) rfl (Nat.le_of_ble_eq_true rfl) (by decide) (by decide +kernel) rfl rfl rfl,
  fun l1 l2 nx h r s Q  => o_aload_n (by decide +kernel : pcode 112 60 = some (10, 0, 0, 0, 0)) rfl,
  fun l1 l2 nx h r s Q hw => o_getR (h := (h, r, s)) (by decide +kernel : pcode 112 61 = some (57, 446, 7, 4, 40)) (by decide) (by decide +kernel) (hw _ (List.mem_of_getElem? (i := 4) rfl)) (by decide),
  fun l1 l2 nx h r s Q hw => o_getR (h := (h, r, s)) (by decide +kernel : pcode 112 64 = some (57, 280, 5, 1, 123)) (by decide) (by decide +kernel) (hw _ (List.mem_of_getElem? (i := 143) rfl)) (by decide),
  fun l1 l2 nx h r s Q  => o_iload_n (by decide +kernel : pcode 112 67 = some (6, 1, 0, 0, 0)) rfl,
  fun l1 l2 x1 nx h r s Q hi hn => o_iald (h := (h, r, s)) (n := 4) (by decide +kernel : pcode 112 68 = some (63, 0, 0, 0, 0)) (by decide) (by decide +kernel) hi hn,
  fun l1 l2 x0 nx h r s Q  => o_iret (by decide +kernel : pcode 112 69 = some (87, 0, 0, 0, 0))⟩
set_option maxHeartbeats 4000000 in
set_option maxRecDepth 10000 in
theorem st_X7_give :
  (∀ (l1 : Int) (l2 : Int) (l3 : Int) (nx : Nat) (h r : PF) (s : Int → Int) (Q : PO → PY → Nat → PC → Prop), (Wp 113 0 [some (pR 1), some (pI l1), some (pI l2), some (pI l3)] [] LY nx (h, r, s) Q ↔ Wp 113 1 [some (pR 1), some (pI l1), some (pI l2), some (pI l3)] [pR 1] LY nx (h, r, s) Q)) ∧
  (∀ (l1 : Int) (l2 : Int) (l3 : Int) (nx : Nat) (h r : PF) (s : Int → Int) (Q : PO → PY → Nat → PC → Prop), (Wp 113 1 [some (pR 1), some (pI l1), some (pI l2), some (pI l3)] [pR 1] LY nx (h, r, s) Q ↔ Wp 113 2 [some (pR 1), some (pI l1), some (pI l2), some (pI l3)] [pI l1, pR 1] LY nx (h, r, s) Q)) ∧
  (∀ (l1 : Int) (l2 : Int) (l3 : Int) (x1 : Int) (nx : Nat) (h r : PF) (s : Int → Int) (Q : PO → PY → Nat → PC → Prop), (Wp 113 2 [some (pR 1), some (pI l1), some (pI l2), some (pI l3)] [pI x1, pR 1] LY nx (h, r, s) Q ↔ Wp 118 0 [some (pR 1), some (pI x1)] [] LY nx (h, r, s) (Kc 113 2 [some (pR 1), some (pI l1), some (pI l2), some (pI l3)] 5 [] Q))) ∧
  (∀ (l1 : Int) (l2 : Int) (l3 : Int) (nx : Nat) (h r : PF) (s : Int → Int) (Q : PO → PY → Nat → PC → Prop), (Wp 113 5 [some (pR 1), some (pI l1), some (pI l2), some (pI l3)] [] LY nx (h, r, s) Q ↔ Wp 113 6 [some (pR 1), some (pI l1), some (pI l2), some (pI l3)] [pR 1] LY nx (h, r, s) Q)) ∧
  (∀ (l1 : Int) (l2 : Int) (l3 : Int) (nx : Nat) (h r : PF) (s : Int → Int) (Q : PO → PY → Nat → PC → Prop), (Wp 113 6 [some (pR 1), some (pI l1), some (pI l2), some (pI l3)] [pR 1] LY nx (h, r, s) Q ↔ Wp 113 7 [some (pR 1), some (pI l1), some (pI l2), some (pI l3)] [pI l2, pR 1] LY nx (h, r, s) Q)) ∧
  (∀ (l1 : Int) (l2 : Int) (l3 : Int) (x1 : Int) (nx : Nat) (h r : PF) (s : Int → Int) (Q : PO → PY → Nat → PC → Prop), (Wp 113 7 [some (pR 1), some (pI l1), some (pI l2), some (pI l3)] [pI x1, pR 1] LY nx (h, r, s) Q ↔ Wp 118 0 [some (pR 1), some (pI x1)] [] LY nx (h, r, s) (Kc 113 7 [some (pR 1), some (pI l1), some (pI l2), some (pI l3)] 10 [] Q))) ∧
  (∀ (l1 : Int) (l2 : Int) (l3 : Int) (nx : Nat) (h r : PF) (s : Int → Int) (Q : PO → PY → Nat → PC → Prop), (Wp 113 10 [some (pR 1), some (pI l1), some (pI l2), some (pI l3)] [] LY nx (h, r, s) Q ↔ Wp 113 11 [some (pR 1), some (pI l1), some (pI l2), some (pI l3)] [pI l3] LY nx (h, r, s) Q)) ∧
  (∀ (l1 : Int) (l2 : Int) (l3 : Int) (x0 : Int) (nx : Nat) (h r : PF) (s : Int → Int) (Q : PO → PY → Nat → PC → Prop), (Wp 113 11 [some (pR 1), some (pI l1), some (pI l2), some (pI l3)] [pI x0] LY nx (h, r, s) Q ↔ Wp 113 12 [some (pR 1), some (pI l1), some (pI l2), some (pI l3)] [pI 0, pI x0] LY nx (h, r, s) Q)) ∧
  (∀ (l1 : Int) (l2 : Int) (l3 : Int) (x0 : Int) (x1 : Int) (nx : Nat) (h r : PF) (s : Int → Int) (Q : PO → PY → Nat → PC → Prop), (Wp 113 12 [some (pR 1), some (pI l1), some (pI l2), some (pI l3)] [pI x1, pI x0] LY nx (h, r, s) Q ↔ Wp 113 15 [some (pR 1), some (pI l1), some (pI l2), some (pI l3)] [pI 999, pI x1, pI x0] LY nx (h, r, s) Q)) ∧
  (∀ (l1 : Int) (l2 : Int) (l3 : Int) (x0 : Int) (x1 : Int) (x2 : Int) (nx : Nat) (h r : PF) (s : Int → Int) (Q : PO → PY → Nat → PC → Prop), (Wp 113 15 [some (pR 1), some (pI l1), some (pI l2), some (pI l3)] [pI x2, pI x1, pI x0] LY nx (h, r, s) Q ↔ Wp 123 0 [some (pI x0), some (pI x1), some (pI x2)] [] LY nx (h, r, s) (Kc 113 15 [some (pR 1), some (pI l1), some (pI l2), some (pI l3)] 18 [] Q))) ∧
  (∀ (l1 : Int) (l2 : Int) (l3 : Int) (nx : Nat) (h r : PF) (s : Int → Int) (Q : PO → PY → Nat → PC → Prop), (Wp 113 18 [some (pR 1), some (pI l1), some (pI l2), some (pI l3)] [] LY nx (h, r, s) Q ↔ Wp 113 19 [some (pR 1), some (pI l1), some (pI l2), some (pI l3)] [pR 1] LY nx (h, r, s) Q)) ∧
  (∀ (l1 : Int) (l2 : Int) (l3 : Int) (nx : Nat) (h r : PF) (s : Int → Int) (Q : PO → PY → Nat → PC → Prop), WFr r → (Wp 113 19 [some (pR 1), some (pI l1), some (pI l2), some (pI l3)] [pR 1] LY nx (h, r, s) Q ↔ Wp 113 22 [some (pR 1), some (pI l1), some (pI l2), some (pI l3)] [pR 144] LY nx (h, r, s) Q)) ∧
  (∀ (l1 : Int) (l2 : Int) (l3 : Int) (nx : Nat) (h r : PF) (s : Int → Int) (Q : PO → PY → Nat → PC → Prop), WFr r → (Wp 113 22 [some (pR 1), some (pI l1), some (pI l2), some (pI l3)] [pR 144] LY nx (h, r, s) Q ↔ Wp 113 25 [some (pR 1), some (pI l1), some (pI l2), some (pI l3)] [pR 146] LY nx (h, r, s) Q)) ∧
  (∀ (l1 : Int) (l2 : Int) (l3 : Int) (nx : Nat) (h r : PF) (s : Int → Int) (Q : PO → PY → Nat → PC → Prop), (Wp 113 25 [some (pR 1), some (pI l1), some (pI l2), some (pI l3)] [pR 146] LY nx (h, r, s) Q ↔ Wp 113 26 [some (pR 1), some (pI l1), some (pI l2), some (pI l3)] [pI l1, pR 146] LY nx (h, r, s) Q)) ∧
  (∀ (l1 : Int) (l2 : Int) (l3 : Int) (x1 : Int) (nx : Nat) (h r : PF) (s : Int → Int) (Q : PO → PY → Nat → PC → Prop), 0 ≤ x1 → x1 < 4 → (Wp 113 26 [some (pR 1), some (pI l1), some (pI l2), some (pI l3)] [pI x1, pR 146] LY nx (h, r, s) Q ↔ Wp 113 27 [some (pR 1), some (pI l1), some (pI l2), some (pI l3)] [pI (h 146 x1)] LY nx (h, r, s) Q)) ∧
  (∀ (l1 : Int) (l2 : Int) (l3 : Int) (x0 : Int) (nx : Nat) (h r : PF) (s : Int → Int) (Q : PO → PY → Nat → PC → Prop), (Wp 113 27 [some (pR 1), some (pI l1), some (pI l2), some (pI l3)] [pI x0] LY nx (h, r, s) Q ↔ Wp 113 28 [some (pR 1), some (pI l1), some (pI l2), some (pI l3)] [pI l3, pI x0] LY nx (h, r, s) Q)) ∧
  (∀ (l1 : Int) (l2 : Int) (l3 : Int) (x0 : Int) (x1 : Int) (nx : Nat) (h r : PF) (s : Int → Int) (Q : PO → PY → Nat → PC → Prop), (Wp 113 28 [some (pR 1), some (pI l1), some (pI l2), some (pI l3)] [pI x1, pI x0] LY nx (h, r, s) Q ↔ (if x0 < x1 then Wp 113 35 [some (pR 1), some (pI l1), some (pI l2), some (pI l3)] [] LY nx (h, r, s) Q else Wp 113 31 [some (pR 1), some (pI l1), some (pI l2), some (pI l3)] [] LY nx (h, r, s) Q))) ∧
  (∀ (l1 : Int) (l2 : Int) (l3 : Int) (nx : Nat) (h r : PF) (s : Int → Int) (Q : PO → PY → Nat → PC → Prop), (Wp 113 31 [some (pR 1), some (pI l1), some (pI l2), some (pI l3)] [] LY nx (h, r, s) Q ↔ Wp 113 32 [some (pR 1), some (pI l1), some (pI l2), some (pI l3)] [pI 1] LY nx (h, r, s) Q)) ∧
  (∀ (l1 : Int) (l2 : Int) (l3 : Int) (x0 : Int) (nx : Nat) (h r : PF) (s : Int → Int) (Q : PO → PY → Nat → PC → Prop), (Wp 113 32 [some (pR 1), some (pI l1), some (pI l2), some (pI l3)] [pI x0] LY nx (h, r, s) Q ↔ Wp 113 36 [some (pR 1), some (pI l1), some (pI l2), some (pI l3)] [pI x0] LY nx (h, r, s) Q)) ∧
  (∀ (l1 : Int) (l2 : Int) (l3 : Int) (nx : Nat) (h r : PF) (s : Int → Int) (Q : PO → PY → Nat → PC → Prop), (Wp 113 35 [some (pR 1), some (pI l1), some (pI l2), some (pI l3)] [] LY nx (h, r, s) Q ↔ Wp 113 36 [some (pR 1), some (pI l1), some (pI l2), some (pI l3)] [pI 0] LY nx (h, r, s) Q)) ∧
  (∀ (l1 : Int) (l2 : Int) (l3 : Int) (x0 : Int) (nx : Nat) (h r : PF) (s : Int → Int) (Q : PO → PY → Nat → PC → Prop), (Wp 113 36 [some (pR 1), some (pI l1), some (pI l2), some (pI l3)] [pI x0] LY nx (h, r, s) Q ↔ Wp 124 0 [some (pI x0)] [] LY nx (h, r, s) (Kc 113 36 [some (pR 1), some (pI l1), some (pI l2), some (pI l3)] 39 [] Q))) ∧
  (∀ (l1 : Int) (l2 : Int) (l3 : Int) (nx : Nat) (h r : PF) (s : Int → Int) (Q : PO → PY → Nat → PC → Prop), (Wp 113 39 [some (pR 1), some (pI l1), some (pI l2), some (pI l3)] [] LY nx (h, r, s) Q ↔ Wp 113 40 [some (pR 1), some (pI l1), some (pI l2), some (pI l3)] [pR 1] LY nx (h, r, s) Q)) ∧
  (∀ (l1 : Int) (l2 : Int) (l3 : Int) (nx : Nat) (h r : PF) (s : Int → Int) (Q : PO → PY → Nat → PC → Prop), WFr r → (Wp 113 40 [some (pR 1), some (pI l1), some (pI l2), some (pI l3)] [pR 1] LY nx (h, r, s) Q ↔ Wp 113 43 [some (pR 1), some (pI l1), some (pI l2), some (pI l3)] [pR 21] LY nx (h, r, s) Q)) ∧
  (∀ (l1 : Int) (l2 : Int) (l3 : Int) (nx : Nat) (h r : PF) (s : Int → Int) (Q : PO → PY → Nat → PC → Prop), (Wp 113 43 [some (pR 1), some (pI l1), some (pI l2), some (pI l3)] [pR 21] LY nx (h, r, s) Q ↔ Wp 113 44 [some (pR 1), some (pI l1), some (pI l2), some (pI l3)] [pR 1, pR 21] LY nx (h, r, s) Q)) ∧
  (∀ (l1 : Int) (l2 : Int) (l3 : Int) (nx : Nat) (h r : PF) (s : Int → Int) (Q : PO → PY → Nat → PC → Prop), WFr r → (Wp 113 44 [some (pR 1), some (pI l1), some (pI l2), some (pI l3)] [pR 1, pR 21] LY nx (h, r, s) Q ↔ Wp 113 47 [some (pR 1), some (pI l1), some (pI l2), some (pI l3)] [pR 144, pR 21] LY nx (h, r, s) Q)) ∧
  (∀ (l1 : Int) (l2 : Int) (l3 : Int) (nx : Nat) (h r : PF) (s : Int → Int) (Q : PO → PY → Nat → PC → Prop), (Wp 113 47 [some (pR 1), some (pI l1), some (pI l2), some (pI l3)] [pR 144, pR 21] LY nx (h, r, s) Q ↔ Wp 13 0 [some (pR 21), some (pR 144)] [] LY nx (h, r, s) (Kc 113 47 [some (pR 1), some (pI l1), some (pI l2), some (pI l3)] 50 [] Q))) ∧
  (∀ (l1 : Int) (l2 : Int) (l3 : Int) (nx : Nat) (h r : PF) (s : Int → Int) (Q : PO → PY → Nat → PC → Prop), (Wp 113 50 [some (pR 1), some (pI l1), some (pI l2), some (pI l3)] [] LY nx (h, r, s) Q ↔ Wp 113 51 [some (pR 1), some (pI l1), some (pI l2), some (pI l3)] [pR 1] LY nx (h, r, s) Q)) ∧
  (∀ (l1 : Int) (l2 : Int) (l3 : Int) (nx : Nat) (h r : PF) (s : Int → Int) (Q : PO → PY → Nat → PC → Prop), WFr r → (Wp 113 51 [some (pR 1), some (pI l1), some (pI l2), some (pI l3)] [pR 1] LY nx (h, r, s) Q ↔ Wp 113 54 [some (pR 1), some (pI l1), some (pI l2), some (pI l3)] [pR 144] LY nx (h, r, s) Q)) ∧
  (∀ (l1 : Int) (l2 : Int) (l3 : Int) (nx : Nat) (h r : PF) (s : Int → Int) (Q : PO → PY → Nat → PC → Prop), WFr r → (Wp 113 54 [some (pR 1), some (pI l1), some (pI l2), some (pI l3)] [pR 144] LY nx (h, r, s) Q ↔ Wp 113 57 [some (pR 1), some (pI l1), some (pI l2), some (pI l3)] [pR 146] LY nx (h, r, s) Q)) ∧
  (∀ (l1 : Int) (l2 : Int) (l3 : Int) (nx : Nat) (h r : PF) (s : Int → Int) (Q : PO → PY → Nat → PC → Prop), (Wp 113 57 [some (pR 1), some (pI l1), some (pI l2), some (pI l3)] [pR 146] LY nx (h, r, s) Q ↔ Wp 113 58 [some (pR 1), some (pI l1), some (pI l2), some (pI l3)] [pI l1, pR 146] LY nx (h, r, s) Q)) ∧
  (∀ (l1 : Int) (l2 : Int) (l3 : Int) (x1 : Int) (nx : Nat) (h r : PF) (s : Int → Int) (Q : PO → PY → Nat → PC → Prop), (Wp 113 58 [some (pR 1), some (pI l1), some (pI l2), some (pI l3)] [pI x1, pR 146] LY nx (h, r, s) Q ↔ Wp 113 59 [some (pR 1), some (pI l1), some (pI l2), some (pI l3)] [pI x1, pR 146, pI x1, pR 146] LY nx (h, r, s) Q)) ∧
  (∀ (l1 : Int) (l2 : Int) (l3 : Int) (x1 : Int) (x3 : Int) (nx : Nat) (h r : PF) (s : Int → Int) (Q : PO → PY → Nat → PC → Prop), 0 ≤ x3 → x3 < 4 → (Wp 113 59 [some (pR 1), some (pI l1), some (pI l2), some (pI l3)] [pI x3, pR 146, pI x1, pR 146] LY nx (h, r, s) Q ↔ Wp 113 60 [some (pR 1), some (pI l1), some (pI l2), some (pI l3)] [pI (h 146 x3), pI x1, pR 146] LY nx (h, r, s) Q)) ∧
  (∀ (l1 : Int) (l2 : Int) (l3 : Int) (x1 : Int) (x2 : Int) (nx : Nat) (h r : PF) (s : Int → Int) (Q : PO → PY → Nat → PC → Prop), (Wp 113 60 [some (pR 1), some (pI l1), some (pI l2), some (pI l3)] [pI x2, pI x1, pR 146] LY nx (h, r, s) Q ↔ Wp 113 61 [some (pR 1), some (pI l1), some (pI l2), some (pI l3)] [pI l3, pI x2, pI x1, pR 146] LY nx (h, r, s) Q)) ∧
  (∀ (l1 : Int) (l2 : Int) (l3 : Int) (x1 : Int) (x2 : Int) (x3 : Int) (nx : Nat) (h r : PF) (s : Int → Int) (Q : PO → PY → Nat → PC → Prop), (Wp 113 61 [some (pR 1), some (pI l1), some (pI l2), some (pI l3)] [pI x3, pI x2, pI x1, pR 146] LY nx (h, r, s) Q ↔ Wp 113 62 [some (pR 1), some (pI l1), some (pI l2), some (pI l3)] [pI (w32 (x2 - x3)), pI x1, pR 146] LY nx (h, r, s) Q)) ∧
  (∀ (l1 : Int) (l2 : Int) (l3 : Int) (x1 : Int) (x2 : Int) (nx : Nat) (h r : PF) (s : Int → Int) (Q : PO → PY → Nat → PC → Prop), 0 ≤ x1 → x1 < 4 → (Wp 113 62 [some (pR 1), some (pI l1), some (pI l2), some (pI l3)] [pI x2, pI x1, pR 146] LY nx (h, r, s) Q ↔ Wp 113 63 [some (pR 1), some (pI l1), some (pI l2), some (pI l3)] [] LY nx (fup h 146 x1 x2, r, s) Q)) ∧
  (∀ (l1 : Int) (l2 : Int) (l3 : Int) (nx : Nat) (h r : PF) (s : Int → Int) (Q : PO → PY → Nat → PC → Prop), (Wp 113 63 [some (pR 1), some (pI l1), some (pI l2), some (pI l3)] [] LY nx (h, r, s) Q ↔ Wp 113 64 [some (pR 1), some (pI l1), some (pI l2), some (pI l3)] [pR 1] LY nx (h, r, s) Q)) ∧
  (∀ (l1 : Int) (l2 : Int) (l3 : Int) (nx : Nat) (h r : PF) (s : Int → Int) (Q : PO → PY → Nat → PC → Prop), WFr r → (Wp 113 64 [some (pR 1), some (pI l1), some (pI l2), some (pI l3)] [pR 1] LY nx (h, r, s) Q ↔ Wp 113 67 [some (pR 1), some (pI l1), some (pI l2), some (pI l3)] [pR 144] LY nx (h, r, s) Q)) ∧
  (∀ (l1 : Int) (l2 : Int) (l3 : Int) (nx : Nat) (h r : PF) (s : Int → Int) (Q : PO → PY → Nat → PC → Prop), WFr r → (Wp 113 67 [some (pR 1), some (pI l1), some (pI l2), some (pI l3)] [pR 144] LY nx (h, r, s) Q ↔ Wp 113 70 [some (pR 1), some (pI l1), some (pI l2), some (pI l3)] [pR 146] LY nx (h, r, s) Q)) ∧
  (∀ (l1 : Int) (l2 : Int) (l3 : Int) (nx : Nat) (h r : PF) (s : Int → Int) (Q : PO → PY → Nat → PC → Prop), (Wp 113 70 [some (pR 1), some (pI l1), some (pI l2), some (pI l3)] [pR 146] LY nx (h, r, s) Q ↔ Wp 113 71 [some (pR 1), some (pI l1), some (pI l2), some (pI l3)] [pI l2, pR 146] LY nx (h, r, s) Q)) ∧
  (∀ (l1 : Int) (l2 : Int) (l3 : Int) (x1 : Int) (nx : Nat) (h r : PF) (s : Int → Int) (Q : PO → PY → Nat → PC → Prop), (Wp 113 71 [some (pR 1), some (pI l1), some (pI l2), some (pI l3)] [pI x1, pR 146] LY nx (h, r, s) Q ↔ Wp 113 72 [some (pR 1), some (pI l1), some (pI l2), some (pI l3)] [pI x1, pR 146, pI x1, pR 146] LY nx (h, r, s) Q)) ∧
  (∀ (l1 : Int) (l2 : Int) (l3 : Int) (x1 : Int) (x3 : Int) (nx : Nat) (h r : PF) (s : Int → Int) (Q : PO → PY → Nat → PC → Prop), 0 ≤ x3 → x3 < 4 → (Wp 113 72 [some (pR 1), some (pI l1), some (pI l2), some (pI l3)] [pI x3, pR 146, pI x1, pR 146] LY nx (h, r, s) Q ↔ Wp 113 73 [some (pR 1), some (pI l1), some (pI l2), some (pI l3)] [pI (h 146 x3), pI x1, pR 146] LY nx (h, r, s) Q)) ∧
  (∀ (l1 : Int) (l2 : Int) (l3 : Int) (x1 : Int) (x2 : Int) (nx : Nat) (h r : PF) (s : Int → Int) (Q : PO → PY → Nat → PC → Prop), (Wp 113 73 [some (pR 1), some (pI l1), some (pI l2), some (pI l3)] [pI x2, pI x1, pR 146] LY nx (h, r, s) Q ↔ Wp 113 74 [some (pR 1), some (pI l1), some (pI l2), some (pI l3)] [pI l3, pI x2, pI x1, pR 146] LY nx (h, r, s) Q)) ∧
  (∀ (l1 : Int) (l2 : Int) (l3 : Int) (x1 : Int) (x2 : Int) (x3 : Int) (nx : Nat) (h r : PF) (s : Int → Int) (Q : PO → PY → Nat → PC → Prop), (Wp 113 74 [some (pR 1), some (pI l1), some (pI l2), some (pI l3)] [pI x3, pI x2, pI x1, pR 146] LY nx (h, r, s) Q ↔ Wp 113 75 [some (pR 1), some (pI l1), some (pI l2), some (pI l3)] [pI (w32 (x2 + x3)), pI x1, pR 146] LY nx (h, r, s) Q)) ∧
  (∀ (l1 : Int) (l2 : Int) (l3 : Int) (x1 : Int) (x2 : Int) (nx : Nat) (h r : PF) (s : Int → Int) (Q : PO → PY → Nat → PC → Prop), 0 ≤ x1 → x1 < 4 → (Wp 113 75 [some (pR 1), some (pI l1), some (pI l2), some (pI l3)] [pI x2, pI x1, pR 146] LY nx (h, r, s) Q ↔ Wp 113 76 [some (pR 1), some (pI l1), some (pI l2), some (pI l3)] [] LY nx (fup h 146 x1 x2, r, s) Q)) ∧
  (∀ (l1 : Int) (l2 : Int) (l3 : Int) (nx : Nat) (h r : PF) (s : Int → Int) (Q : PO → PY → Nat → PC → Prop), (Wp 113 76 [some (pR 1), some (pI l1), some (pI l2), some (pI l3)] [] LY nx (h, r, s) Q ↔ Wp 113 77 [some (pR 1), some (pI l1), some (pI l2), some (pI l3)] [pR 1] LY nx (h, r, s) Q)) ∧
  (∀ (l1 : Int) (l2 : Int) (l3 : Int) (nx : Nat) (h r : PF) (s : Int → Int) (Q : PO → PY → Nat → PC → Prop), WFr r → (Wp 113 77 [some (pR 1), some (pI l1), some (pI l2), some (pI l3)] [pR 1] LY nx (h, r, s) Q ↔ Wp 113 80 [some (pR 1), some (pI l1), some (pI l2), some (pI l3)] [pR 144] LY nx (h, r, s) Q)) ∧
  (∀ (l1 : Int) (l2 : Int) (l3 : Int) (nx : Nat) (h r : PF) (s : Int → Int) (Q : PO → PY → Nat → PC → Prop), WFr r → (Wp 113 80 [some (pR 1), some (pI l1), some (pI l2), some (pI l3)] [pR 144] LY nx (h, r, s) Q ↔ Wp 113 83 [some (pR 1), some (pI l1), some (pI l2), some (pI l3)] [pR 146] LY nx (h, r, s) Q)) ∧
  (∀ (l1 : Int) (l2 : Int) (l3 : Int) (nx : Nat) (h r : PF) (s : Int → Int) (Q : PO → PY → Nat → PC → Prop), (Wp 113 83 [some (pR 1), some (pI l1), some (pI l2), some (pI l3)] [pR 146] LY nx (h, r, s) Q ↔ Wp 113 84 [some (pR 1), some (pI l1), some (pI l2), some (pI l3)] [pI l2, pR 146] LY nx (h, r, s) Q)) ∧
  (∀ (l1 : Int) (l2 : Int) (l3 : Int) (x1 : Int) (nx : Nat) (h r : PF) (s : Int → Int) (Q : PO → PY → Nat → PC → Prop), 0 ≤ x1 → x1 < 4 → (Wp 113 84 [some (pR 1), some (pI l1), some (pI l2), some (pI l3)] [pI x1, pR 146] LY nx (h, r, s) Q ↔ Wp 113 85 [some (pR 1), some (pI l1), some (pI l2), some (pI l3)] [pI (h 146 x1)] LY nx (h, r, s) Q)) ∧
  (∀ (l1 : Int) (l2 : Int) (l3 : Int) (x0 : Int) (nx : Nat) (h r : PF) (s : Int → Int) (Q : PO → PY → Nat → PC → Prop), (Wp 113 85 [some (pR 1), some (pI l1), some (pI l2), some (pI l3)] [pI x0] LY nx (h, r, s) Q ↔ Q (Sum.inl (some (pI x0))) LY nx (h, r, s))) :=
  ⟨fun l1 l2 l3 nx h r s Q  => o_aload_n (by decide +kernel : pcode 113 0 = some (10, 0, 0, 0, 0)) rfl,
  fun l1 l2 l3 nx h r s Q  => o_iload_n (by decide +kernel : pcode 113 1 = some (6, 1, 0, 0, 0)) rfl,
  fun l1 l2 l3 x1 nx h r s Q  => o_ivV (s1 := [pI x1]) (s2 := []) (o := 1) (by decide +kernel : pcode 113 2 = some (78, 118, 2, 816, 116)) rfl (Nat.le_of_ble_eq_true rfl) (by decide) (by decide +kernel) rfl rfl rfl,
  fun l1 l2 l3 nx h r s Q  => o_aload_n (by decide +kernel : pcode 113 5 = some (10, 0, 0, 0, 0)) rfl,
  fun l1 l2 l3 nx h r s Q  => o_iload_n (by decide +kernel : pcode 113 6 = some (6, 2, 0, 0, 0)) rfl,
  fun l1 l2 l3 x1 nx h r s Q  => o_ivV (s1 := [pI x1]) (s2 := []) (o := 1) (by decide +kernel : pcode 113 7 = some (78, 118, 2, 816, 116)) rfl (Nat.le_of_ble_eq_true rfl) (by decide) (by decide +kernel) rfl rfl rfl,
  fun l1 l2 l3 nx h r s Q  => o_iload_n (by decide +kernel : pcode 113 10 = some (6, 3, 0, 0, 0)) rfl,
  fun l1 l2 l3 x0 nx h r s Q  => o_iconst (by decide +kernel : pcode 113 11 = some (1, 0, 0, 0, 0)),
  fun l1 l2 l3 x0 x1 nx h r s Q  => o_sipush (by decide +kernel : pcode 113 12 = some (3, 0, 0, 0, 999)),
  fun l1 l2 l3 x0 x1 x2 nx h r s Q  => o_ivS (s1 := [pI x2, pI x1, pI x0]) (s2 := []) (by decide +kernel : pcode 113 15 = some (77, 123, 3, 573, 69)) rfl (Nat.le_of_ble_eq_true rfl) rfl rfl rfl,
  fun l1 l2 l3 nx h r s Q  => o_aload_n (by decide +kernel : pcode 113 18 = some (10, 0, 0, 0, 0)) rfl,
  fun l1 l2 l3 nx h r s Q hw => o_getR (h := (h, r, s)) (by decide +kernel : pcode 113 19 = some (57, 446, 7, 4, 40)) (by decide) (by decide +kernel) (hw _ (List.mem_of_getElem? (i := 4) rfl)) (by decide),
  fun l1 l2 l3 nx h r s Q hw => o_getR (h := (h, r, s)) (by decide +kernel : pcode 113 22 = some (57, 280, 5, 1, 123)) (by decide) (by decide +kernel) (hw _ (List.mem_of_getElem? (i := 143) rfl)) (by decide),
  fun l1 l2 l3 nx h r s Q  => o_iload_n (by decide +kernel : pcode 113 25 = some (6, 1, 0, 0, 0)) rfl,
  fun l1 l2 l3 x1 nx h r s Q hi hn => o_iald (h := (h, r, s)) (n := 4) (by decide +kernel : pcode 113 26 = some (63, 0, 0, 0, 0)) (by decide) (by decide +kernel) hi hn,
  fun l1 l2 l3 x0 nx h r s Q  => o_iload_n (by decide +kernel : pcode 113 27 = some (6, 3, 0, 0, 0)) rfl,
  fun l1 l2 l3 x0 x1 nx h r s Q  => o_icmp_lt (by decide +kernel : pcode 113 28 = some (49, 35, 0, 0, 7)),
  fun l1 l2 l3 nx h r s Q  => o_iconst (by decide +kernel : pcode 113 31 = some (1, 0, 0, 0, 1)),
  fun l1 l2 l3 x0 nx h r s Q  => o_goto (by decide +kernel : pcode 113 32 = some (53, 36, 0, 0, 4)),
  fun l1 l2 l3 nx h r s Q  => o_iconst (by decide +kernel : pcode 113 35 = some (1, 0, 0, 0, 0)),
  fun l1 l2 l3 x0 nx h r s Q  => o_ivS (s1 := [pI x0]) (s2 := []) (by decide +kernel : pcode 113 36 = some (77, 124, 1, 1101, 240)) rfl (Nat.le_of_ble_eq_true rfl) rfl rfl rfl,
  fun l1 l2 l3 nx h r s Q  => o_aload_n (by decide +kernel : pcode 113 39 = some (10, 0, 0, 0, 0)) rfl,
  fun l1 l2 l3 nx h r s Q hw => o_getR (h := (h, r, s)) (by decide +kernel : pcode 113 40 = some (57, 445, 7, 3, 33)) (by decide) (by decide +kernel) (hw _ (List.mem_of_getElem? (i := 3) rfl)) (by decide),
  fun l1 l2 l3 nx h r s Q  => o_aload_n (by decide +kernel : pcode 113 43 = some (10, 0, 0, 0, 0)) rfl,
  fun l1 l2 l3 nx h r s Q hw => o_getR (h := (h, r, s)) (by decide +kernel : pcode 113 44 = some (57, 446, 7, 4, 40)) (by decide) (by decide +kernel) (hw _ (List.mem_of_getElem? (i := 4) rfl)) (by decide),
  fun l1 l2 l3 nx h r s Q  => o_ivV (s1 := [pR 144]) (s2 := []) (o := 21) (by decide +kernel : pcode 113 47 = some (78, 13, 2, 1119, 244)) rfl (Nat.le_of_ble_eq_true rfl) (by decide) (by decide +kernel) rfl rfl rfl,
  fun l1 l2 l3 nx h r s Q  => o_aload_n (by decide +kernel : pcode 113 50 = some (10, 0, 0, 0, 0)) rfl,
  fun l1 l2 l3 nx h r s Q hw => o_getR (h := (h, r, s)) (by decide +kernel : pcode 113 51 = some (57, 446, 7, 4, 40)) (by decide) (by decide +kernel) (hw _ (List.mem_of_getElem? (i := 4) rfl)) (by decide),
  fun l1 l2 l3 nx h r s Q hw => o_getR (h := (h, r, s)) (by decide +kernel : pcode 113 54 = some (57, 280, 5, 1, 123)) (by decide) (by decide +kernel) (hw _ (List.mem_of_getElem? (i := 143) rfl)) (by decide),
  fun l1 l2 l3 nx h r s Q  => o_iload_n (by decide +kernel : pcode 113 57 = some (6, 1, 0, 0, 0)) rfl,
  fun l1 l2 l3 x1 nx h r s Q  => o_dup2 (by decide +kernel : pcode 113 58 = some (39, 0, 0, 0, 0)) ⟨rfl, rfl⟩,
  fun l1 l2 l3 x1 x3 nx h r s Q hi hn => o_iald (h := (h, r, s)) (n := 4) (by decide +kernel : pcode 113 59 = some (63, 0, 0, 0, 0)) (by decide) (by decide +kernel) hi hn,
  fun l1 l2 l3 x1 x2 nx h r s Q  => o_iload_n (by decide +kernel : pcode 113 60 = some (6, 3, 0, 0, 0)) rfl,
  fun l1 l2 l3 x1 x2 x3 nx h r s Q  => o_isub (by decide +kernel : pcode 113 61 = some (20, 0, 0, 0, 0)),
  fun l1 l2 l3 x1 x2 nx h r s Q hi hn => o_iast (h := (h, r, s)) (n := 4) (by decide +kernel : pcode 113 62 = some (64, 0, 0, 0, 0)) (by decide) (by decide +kernel) hi hn,
  fun l1 l2 l3 nx h r s Q  => o_aload_n (by decide +kernel : pcode 113 63 = some (10, 0, 0, 0, 0)) rfl,
  fun l1 l2 l3 nx h r s Q hw => o_getR (h := (h, r, s)) (by decide +kernel : pcode 113 64 = some (57, 446, 7, 4, 40)) (by decide) (by decide +kernel) (hw _ (List.mem_of_getElem? (i := 4) rfl)) (by decide),
  fun l1 l2 l3 nx h r s Q hw => o_getR (h := (h, r, s)) (by decide +kernel : pcode 113 67 = some (57, 280, 5, 1, 123)) (by decide) (by decide +kernel) (hw _ (List.mem_of_getElem? (i := 143) rfl)) (by decide),
  fun l1 l2 l3 nx h r s Q  => o_iload_n (by decide +kernel : pcode 113 70 = some (6, 2, 0, 0, 0)) rfl,
  fun l1 l2 l3 x1 nx h r s Q  => o_dup2 (by decide +kernel : pcode 113 71 = some (39, 0, 0, 0, 0)) ⟨rfl, rfl⟩,
  fun l1 l2 l3 x1 x3 nx h r s Q hi hn => o_iald (h := (h, r, s)) (n := 4) (by decide +kernel : pcode 113 72 = some (63, 0, 0, 0, 0)) (by decide) (by decide +kernel) hi hn,
  fun l1 l2 l3 x1 x2 nx h r s Q  => o_iload_n (by decide +kernel : pcode 113 73 = some (6, 3, 0, 0, 0)) rfl,
  fun l1 l2 l3 x1 x2 x3 nx h r s Q  => o_iadd (by decide +kernel : pcode 113 74 = some (19, 0, 0, 0, 0)),
  fun l1 l2 l3 x1 x2 nx h r s Q hi hn => o_iast (h := (h, r, s)) (n := 4) (by decide +kernel : pcode 113 75 = some (64, 0, 0, 0, 0)) (by decide) (by decide +kernel) hi hn,
  fun l1 l2 l3 nx h r s Q  => o_aload_n (by decide +kernel : pcode 113 76 = some (10, 0, 0, 0, 0)) rfl,
  fun l1 l2 l3 nx h r s Q hw => o_getR (h := (h, r, s)) (by decide +kernel : pcode 113 77 = some (57, 446, 7, 4, 40)) (by decide) (by decide +kernel) (hw _ (List.mem_of_getElem? (i := 4) rfl)) (by decide),
  fun l1 l2 l3 nx h r s Q hw => o_getR (h := (h, r, s)) (by decide +kernel : pcode 113 80 = some (57, 280, 5, 1, 123)) (by decide) (by decide +kernel) (hw _ (List.mem_of_getElem? (i := 143) rfl)) (by decide),
  fun l1 l2 l3 nx h r s Q  => o_iload_n (by decide +kernel : pcode 113 83 = some (6, 2, 0, 0, 0)) rfl,
  fun l1 l2 l3 x1 nx h r s Q hi hn => o_iald (h := (h, r, s)) (n := 4) (by decide +kernel : pcode 113 84 = some (63, 0, 0, 0, 0)) (by decide) (by decide +kernel) hi hn,
  fun l1 l2 l3 x0 nx h r s Q  => o_iret (by decide +kernel : pcode 113 85 = some (87, 0, 0, 0, 0))⟩
set_option maxHeartbeats 4000000 in
set_option maxRecDepth 10000 in
theorem st_X7_setWeight :
  (∀ (l1 : Int) (l2 : Int) (nx : Nat) (h r : PF) (s : Int → Int) (Q : PO → PY → Nat → PC → Prop), (Wp 114 0 [some (pR 1), some (pI l1), some (pI l2), none] [] LY nx (h, r, s) Q ↔ Wp 114 1 [some (pR 1), some (pI l1), some (pI l2), none] [pR 1] LY nx (h, r, s) Q)) ∧
  (∀ (l1 : Int) (l2 : Int) (nx : Nat) (h r : PF) (s : Int → Int) (Q : PO → PY → Nat → PC → Prop), (Wp 114 1 [some (pR 1), some (pI l1), some (pI l2), none] [pR 1] LY nx (h, r, s) Q ↔ Wp 114 2 [some (pR 1), some (pI l1), some (pI l2), none] [pI l1, pR 1] LY nx (h, r, s) Q)) ∧
  (∀ (l1 : Int) (l2 : Int) (x1 : Int) (nx : Nat) (h r : PF) (s : Int → Int) (Q : PO → PY → Nat → PC → Prop), (Wp 114 2 [some (pR 1), some (pI l1), some (pI l2), none] [pI x1, pR 1] LY nx (h, r, s) Q ↔ Wp 118 0 [some (pR 1), some (pI x1)] [] LY nx (h, r, s) (Kc 114 2 [some (pR 1), some (pI l1), some (pI l2), none] 5 [] Q))) ∧
  (∀ (l1 : Int) (l2 : Int) (nx : Nat) (h r : PF) (s : Int → Int) (Q : PO → PY → Nat → PC → Prop), (Wp 114 5 [some (pR 1), some (pI l1), some (pI l2), none] [] LY nx (h, r, s) Q ↔ Wp 114 6 [some (pR 1), some (pI l1), some (pI l2), none] [pI l2] LY nx (h, r, s) Q)) ∧
  (∀ (l1 : Int) (l2 : Int) (x0 : Int) (nx : Nat) (h r : PF) (s : Int → Int) (Q : PO → PY → Nat → PC → Prop), (Wp 114 6 [some (pR 1), some (pI l1), some (pI l2), none] [pI x0] LY nx (h, r, s) Q ↔ Wp 114 7 [some (pR 1), some (pI l1), some (pI l2), none] [pI 1, pI x0] LY nx (h, r, s) Q)) ∧
  (∀ (l1 : Int) (l2 : Int) (x0 : Int) (x1 : Int) (nx : Nat) (h r : PF) (s : Int → Int) (Q : PO → PY → Nat → PC → Prop), (Wp 114 7 [some (pR 1), some (pI l1), some (pI l2), none] [pI x1, pI x0] LY nx (h, r, s) Q ↔ Wp 114 9 [some (pR 1), some (pI l1), some (pI l2), none] [pI 9, pI x1, pI x0] LY nx (h, r, s) Q)) ∧
  (∀ (l1 : Int) (l2 : Int) (x0 : Int) (x1 : Int) (x2 : Int) (nx : Nat) (h r : PF) (s : Int → Int) (Q : PO → PY → Nat → PC → Prop), (Wp 114 9 [some (pR 1), some (pI l1), some (pI l2), none] [pI x2, pI x1, pI x0] LY nx (h, r, s) Q ↔ Wp 123 0 [some (pI x0), some (pI x1), some (pI x2)] [] LY nx (h, r, s) (Kc 114 9 [some (pR 1), some (pI l1), some (pI l2), none] 12 [] Q))) ∧
  (∀ (l1 : Int) (l2 : Int) (nx : Nat) (h r : PF) (s : Int → Int) (Q : PO → PY → Nat → PC → Prop), (Wp 114 12 [some (pR 1), some (pI l1), some (pI l2), none] [] LY nx (h, r, s) Q ↔ Wp 114 13 [some (pR 1), some (pI l1), some (pI l2), none] [pR 1] LY nx (h, r, s) Q)) ∧
  (∀ (l1 : Int) (l2 : Int) (nx : Nat) (h r : PF) (s : Int → Int) (Q : PO → PY → Nat → PC → Prop), WFr r → (Wp 114 13 [some (pR 1), some (pI l1), some (pI l2), none] [pR 1] LY nx (h, r, s) Q ↔ Wp 114 16 [some (pR 1), some (pI l1), some (pI l2), none] [pR 21] LY nx (h, r, s) Q)) ∧
  (∀ (l1 : Int) (l2 : Int) (nx : Nat) (h r : PF) (s : Int → Int) (Q : PO → PY → Nat → PC → Prop), (Wp 114 16 [some (pR 1), some (pI l1), some (pI l2), none] [pR 21] LY nx (h, r, s) Q ↔ Wp 114 17 [some (pR 1), some (pI l1), some (pI l2), none] [pR 1, pR 21] LY nx (h, r, s) Q)) ∧
  (∀ (l1 : Int) (l2 : Int) (nx : Nat) (h r : PF) (s : Int → Int) (Q : PO → PY → Nat → PC → Prop), WFr r → (Wp 114 17 [some (pR 1), some (pI l1), some (pI l2), none] [pR 1, pR 21] LY nx (h, r, s) Q ↔ Wp 114 20 [some (pR 1), some (pI l1), some (pI l2), none] [pR 144, pR 21] LY nx (h, r, s) Q)) ∧
  (∀ (l1 : Int) (l2 : Int) (nx : Nat) (h r : PF) (s : Int → Int) (Q : PO → PY → Nat → PC → Prop), (Wp 114 20 [some (pR 1), some (pI l1), some (pI l2), none] [pR 144, pR 21] LY nx (h, r, s) Q ↔ Wp 13 0 [some (pR 21), some (pR 144)] [] LY nx (h, r, s) (Kc 114 20 [some (pR 1), some (pI l1), some (pI l2), none] 23 [] Q))) ∧
  (∀ (l1 : Int) (l2 : Int) (nx : Nat) (h r : PF) (s : Int → Int) (Q : PO → PY → Nat → PC → Prop), (Wp 114 23 [some (pR 1), some (pI l1), some (pI l2), none] [] LY nx (h, r, s) Q ↔ Wp 114 24 [some (pR 1), some (pI l1), some (pI l2), none] [pR 1] LY nx (h, r, s) Q)) ∧
  (∀ (l1 : Int) (l2 : Int) (nx : Nat) (h r : PF) (s : Int → Int) (Q : PO → PY → Nat → PC → Prop), WFr r → (Wp 114 24 [some (pR 1), some (pI l1), some (pI l2), none] [pR 1] LY nx (h, r, s) Q ↔ Wp 114 27 [some (pR 1), some (pI l1), some (pI l2), none] [pR 144] LY nx (h, r, s) Q)) ∧
  (∀ (l1 : Int) (l2 : Int) (nx : Nat) (h r : PF) (s : Int → Int) (Q : PO → PY → Nat → PC → Prop), WFr r → (Wp 114 27 [some (pR 1), some (pI l1), some (pI l2), none] [pR 144] LY nx (h, r, s) Q ↔ Wp 114 30 [some (pR 1), some (pI l1), some (pI l2), none] [pR 147] LY nx (h, r, s) Q)) ∧
  (∀ (l1 : Int) (l2 : Int) (nx : Nat) (h r : PF) (s : Int → Int) (Q : PO → PY → Nat → PC → Prop), (Wp 114 30 [some (pR 1), some (pI l1), some (pI l2), none] [pR 147] LY nx (h, r, s) Q ↔ Wp 114 31 [some (pR 1), some (pI l1), some (pI l2), none] [pI l1, pR 147] LY nx (h, r, s) Q)) ∧
  (∀ (l1 : Int) (l2 : Int) (x1 : Int) (nx : Nat) (h r : PF) (s : Int → Int) (Q : PO → PY → Nat → PC → Prop), 0 ≤ x1 → x1 < 4 → (Wp 114 31 [some (pR 1), some (pI l1), some (pI l2), none] [pI x1, pR 147] LY nx (h, r, s) Q ↔ Wp 114 32 [some (pR 1), some (pI l1), some (pI l2), none] [pI (h 147 x1)] LY nx (h, r, s) Q)) ∧
  (∀ (l1 : Int) (l2 : Int) (x0 : Int) (nx : Nat) (h r : PF) (s : Int → Int) (Q : PO → PY → Nat → PC → Prop), (Wp 114 32 [some (pR 1), some (pI l1), some (pI l2), none] [pI x0] LY nx (h, r, s) Q ↔ Wp 114 33 [some (pR 1), some (pI l1), some (pI l2), some (pI x0)] [] LY nx (h, r, s) Q)) ∧
  (∀ (l1 : Int) (l2 : Int) (l3 : Int) (nx : Nat) (h r : PF) (s : Int → Int) (Q : PO → PY → Nat → PC → Prop), (Wp 114 33 [some (pR 1), some (pI l1), some (pI l2), some (pI l3)] [] LY nx (h, r, s) Q ↔ Wp 114 34 [some (pR 1), some (pI l1), some (pI l2), some (pI l3)] [pR 1] LY nx (h, r, s) Q)) ∧
  (∀ (l1 : Int) (l2 : Int) (l3 : Int) (nx : Nat) (h r : PF) (s : Int → Int) (Q : PO → PY → Nat → PC → Prop), WFr r → (Wp 114 34 [some (pR 1), some (pI l1), some (pI l2), some (pI l3)] [pR 1] LY nx (h, r, s) Q ↔ Wp 114 37 [some (pR 1), some (pI l1), some (pI l2), some (pI l3)] [pR 144] LY nx (h, r, s) Q)) ∧
  (∀ (l1 : Int) (l2 : Int) (l3 : Int) (nx : Nat) (h r : PF) (s : Int → Int) (Q : PO → PY → Nat → PC → Prop), WFr r → (Wp 114 37 [some (pR 1), some (pI l1), some (pI l2), some (pI l3)] [pR 144] LY nx (h, r, s) Q ↔ Wp 114 40 [some (pR 1), some (pI l1), some (pI l2), some (pI l3)] [pR 147] LY nx (h, r, s) Q)) ∧
  (∀ (l1 : Int) (l2 : Int) (l3 : Int) (nx : Nat) (h r : PF) (s : Int → Int) (Q : PO → PY → Nat → PC → Prop), (Wp 114 40 [some (pR 1), some (pI l1), some (pI l2), some (pI l3)] [pR 147] LY nx (h, r, s) Q ↔ Wp 114 41 [some (pR 1), some (pI l1), some (pI l2), some (pI l3)] [pI l1, pR 147] LY nx (h, r, s) Q)) ∧
  (∀ (l1 : Int) (l2 : Int) (l3 : Int) (x1 : Int) (nx : Nat) (h r : PF) (s : Int → Int) (Q : PO → PY → Nat → PC → Prop), (Wp 114 41 [some (pR 1), some (pI l1), some (pI l2), some (pI l3)] [pI x1, pR 147] LY nx (h, r, s) Q ↔ Wp 114 42 [some (pR 1), some (pI l1), some (pI l2), some (pI l3)] [pI l2, pI x1, pR 147] LY nx (h, r, s) Q)) ∧
  (∀ (l1 : Int) (l2 : Int) (l3 : Int) (x1 : Int) (x2 : Int) (nx : Nat) (h r : PF) (s : Int → Int) (Q : PO → PY → Nat → PC → Prop), 0 ≤ x1 → x1 < 4 → (Wp 114 42 [some (pR 1), some (pI l1), some (pI l2), some (pI l3)] [pI x2, pI x1, pR 147] LY nx (h, r, s) Q ↔ Wp 114 43 [some (pR 1), some (pI l1), some (pI l2), some (pI l3)] [] LY nx (fup h 147 x1 x2, r, s) Q)) ∧
  (∀ (l1 : Int) (l2 : Int) (l3 : Int) (nx : Nat) (h r : PF) (s : Int → Int) (Q : PO → PY → Nat → PC → Prop), (Wp 114 43 [some (pR 1), some (pI l1), some (pI l2), some (pI l3)] [] LY nx (h, r, s) Q ↔ Wp 114 44 [some (pR 1), some (pI l1), some (pI l2), some (pI l3)] [pI l3] LY nx (h, r, s) Q)) ∧
  (∀ (l1 : Int) (l2 : Int) (l3 : Int) (x0 : Int) (nx : Nat) (h r : PF) (s : Int → Int) (Q : PO → PY → Nat → PC → Prop), (Wp 114 44 [some (pR 1), some (pI l1), some (pI l2), some (pI l3)] [pI x0] LY nx (h, r, s) Q ↔ Q (Sum.inl (some (pI x0))) LY nx (h, r, s))) :=
  ⟨fun l1 l2 nx h r s Q  => o_aload_n (by decide +kernel : pcode 114 0 = some (10, 0, 0, 0, 0)) rfl,
  fun l1 l2 nx h r s Q  => o_iload_n (by decide +kernel : pcode 114 1 = some (6, 1, 0, 0, 0)) rfl,
  fun l1 l2 x1 nx h r s Q  => o_ivV (s1 := [pI x1]) (s2 := []) (o := 1) (by decide +kernel : pcode 114 2 = some (78, 118, 2, 816, 116)) rfl (Nat.le_of_ble_eq_true rfl) (by decide) (by decide +kernel) rfl rfl rfl,
  fun l1 l2 nx h r s Q  => o_iload_n (by decide +kernel : pcode 114 5 = some (6, 2, 0, 0, 0)) rfl,
  fun l1 l2 x0 nx h r s Q  => o_iconst (by decide +kernel : pcode 114 6 = some (1, 0, 0, 0, 1)),
  fun l1 l2 x0 x1 nx h r s Q  => o_bipush (by decide +kernel : pcode 114 7 = some (2, 0, 0, 0, 9)),
  fun l1 l2 x0 x1 x2 nx h r s Q  => o_ivS (s1 := [pI x2, pI x1, pI x0]) (s2 := []) (by decide +kernel : pcode 114 9 = some (77, 123, 3, 573, 69)) rfl (Nat.le_of_ble_eq_true rfl) rfl rfl rfl,
  fun l1 l2 nx h r s Q  => o_aload_n (by decide +kernel : pcode 114 12 = some (10, 0, 0, 0, 0)) rfl,
  fun l1 l2 nx h r s Q hw => o_getR (h := (h, r, s)) (by decide +kernel : pcode 114 13 = some (57, 445, 7, 3, 33)) (by decide) (by decide +kernel) (hw _ (List.mem_of_getElem? (i := 3) rfl)) (by decide),
  fun l1 l2 nx h r s Q  => o_aload_n (by decide +kernel : pcode 114 16 = some (10, 0, 0, 0, 0)) rfl,
  fun l1 l2 nx h r s Q hw => o_getR (h := (h, r, s)) (by decide +kernel : pcode 114 17 = some (57, 446, 7, 4, 40)) (by decide) (by decide +kernel) (hw _ (List.mem_of_getElem? (i := 4) rfl)) (by decide),
  fun l1 l2 nx h r s Q  => o_ivV (s1 := [pR 144]) (s2 := []) (o := 21) (by decide +kernel : pcode 114 20 = some (78, 13, 2, 1119, 244)) rfl (Nat.le_of_ble_eq_true rfl) (by decide) (by decide +kernel) rfl rfl rfl,
  fun l1 l2 nx h r s Q  => o_aload_n (by decide +kernel : pcode 114 23 = some (10, 0, 0, 0, 0)) rfl,
  fun l1 l2 nx h r s Q hw => o_getR (h := (h, r, s)) (by decide +kernel : pcode 114 24 = some (57, 446, 7, 4, 40)) (by decide) (by decide +kernel) (hw _ (List.mem_of_getElem? (i := 4) rfl)) (by decide),
  fun l1 l2 nx h r s Q hw => o_getR (h := (h, r, s)) (by decide +kernel : pcode 114 27 = some (57, 282, 5, 2, 126)) (by decide) (by decide +kernel) (hw _ (List.mem_of_getElem? (i := 144) rfl)) (by decide),
  fun l1 l2 nx h r s Q  => o_iload_n (by decide +kernel : pcode 114 30 = some (6, 1, 0, 0, 0)) rfl,
  fun l1 l2 x1 nx h r s Q hi hn => o_iald (h := (h, r, s)) (n := 4) (by decide +kernel : pcode 114 31 = some (63, 0, 0, 0, 0)) (by decide) (by decide +kernel) hi hn,
  fun l1 l2 x0 nx h r s Q  => o_istore_n (by decide +kernel : pcode 114 32 = some (12, 3, 0, 0, 0)) rfl,
  fun l1 l2 l3 nx h r s Q  => o_aload_n (by decide +kernel : pcode 114 33 = some (10, 0, 0, 0, 0)) rfl,
  fun l1 l2 l3 nx h r s Q hw => o_getR (h := (h, r, s)) (by decide +kernel : pcode 114 34 = some (57, 446, 7, 4, 40)) (by decide) (by decide +kernel) (hw _ (List.mem_of_getElem? (i := 4) rfl)) (by decide),
  fun l1 l2 l3 nx h r s Q hw => o_getR (h := (h, r, s)) (by decide +kernel : pcode 114 37 = some (57, 282, 5, 2, 126)) (by decide) (by decide +kernel) (hw _ (List.mem_of_getElem? (i := 144) rfl)) (by decide),
  fun l1 l2 l3 nx h r s Q  => o_iload_n (by decide +kernel : pcode 114 40 = some (6, 1, 0, 0, 0)) rfl,
  fun l1 l2 l3 x1 nx h r s Q  => o_iload_n (by decide +kernel : pcode 114 41 = some (6, 2, 0, 0, 0)) rfl,
  fun l1 l2 l3 x1 x2 nx h r s Q hi hn => o_iast (h := (h, r, s)) (n := 4) (by decide +kernel : pcode 114 42 = some (64, 0, 0, 0, 0)) (by decide) (by decide +kernel) hi hn,
  fun l1 l2 l3 nx h r s Q  => o_iload_n (by decide +kernel : pcode 114 43 = some (6, 3, 0, 0, 0)) rfl,
  fun l1 l2 l3 x0 nx h r s Q  => o_iret (by decide +kernel : pcode 114 44 = some (87, 0, 0, 0, 0))⟩
set_option maxHeartbeats 4000000 in
set_option maxRecDepth 10000 in
theorem st_X7_undo :
  (∀  (nx : Nat) (h r : PF) (s : Int → Int) (Q : PO → PY → Nat → PC → Prop), (Wp 115 0 [some (pR 1)] [] LY nx (h, r, s) Q ↔ Wp 115 1 [some (pR 1)] [pR 1] LY nx (h, r, s) Q)) ∧
  (∀  (nx : Nat) (h r : PF) (s : Int → Int) (Q : PO → PY → Nat → PC → Prop), WFr r → (Wp 115 1 [some (pR 1)] [pR 1] LY nx (h, r, s) Q ↔ Wp 115 4 [some (pR 1)] [pR 21] LY nx (h, r, s) Q)) ∧
  (∀  (nx : Nat) (h r : PF) (s : Int → Int) (Q : PO → PY → Nat → PC → Prop), (Wp 115 4 [some (pR 1)] [pR 21] LY nx (h, r, s) Q ↔ Wp 115 5 [some (pR 1)] [pR 1, pR 21] LY nx (h, r, s) Q)) ∧
  (∀  (nx : Nat) (h r : PF) (s : Int → Int) (Q : PO → PY → Nat → PC → Prop), WFr r → (Wp 115 5 [some (pR 1)] [pR 1, pR 21] LY nx (h, r, s) Q ↔ Wp 115 8 [some (pR 1)] [pR 144, pR 21] LY nx (h, r, s) Q)) ∧
  (∀  (nx : Nat) (h r : PF) (s : Int → Int) (Q : PO → PY → Nat → PC → Prop), (Wp 115 8 [some (pR 1)] [pR 144, pR 21] LY nx (h, r, s) Q ↔ Wp 14 0 [some (pR 21), some (pR 144)] [] LY nx (h, r, s) (Kc 115 8 [some (pR 1)] 11 [] Q))) ∧
  (∀ (x0 : Int) (nx : Nat) (h r : PF) (s : Int → Int) (Q : PO → PY → Nat → PC → Prop), (Wp 115 11 [some (pR 1)] [pI x0] LY nx (h, r, s) Q ↔ Q (Sum.inl (some (pI x0))) LY nx (h, r, s))) :=
  ⟨fun  nx h r s Q  => o_aload_n (by decide +kernel : pcode 115 0 = some (10, 0, 0, 0, 0)) rfl,
  fun  nx h r s Q hw => o_getR (h := (h, r, s)) (by decide +kernel : pcode 115 1 = some (57, 445, 7, 3, 33)) (by decide) (by decide +kernel) (hw _ (List.mem_of_getElem? (i := 3) rfl)) (by decide),
  fun  nx h r s Q  => o_aload_n (by decide +kernel : pcode 115 4 = some (10, 0, 0, 0, 0)) rfl,
  fun  nx h r s Q hw => o_getR (h := (h, r, s)) (by decide +kernel : pcode 115 5 = some (57, 446, 7, 4, 40)) (by decide) (by decide +kernel) (hw _ (List.mem_of_getElem? (i := 4) rfl)) (by decide),
  fun  nx h r s Q  => o_ivV (s1 := [pR 144]) (s2 := []) (o := 21) (by decide +kernel : pcode 115 8 = some (78, 14, 2, 557, 264)) rfl (Nat.le_of_ble_eq_true rfl) (by decide) (by decide +kernel) rfl rfl rfl,
  fun x0 nx h r s Q  => o_iret (by decide +kernel : pcode 115 11 = some (87, 0, 0, 0, 0))⟩
set_option maxHeartbeats 4000000 in
set_option maxRecDepth 10000 in
theorem st_X7_saveSnapshot :
  (∀ (l1 : Int) (nx : Nat) (h r : PF) (s : Int → Int) (Q : PO → PY → Nat → PC → Prop), (Wp 116 0 [some (pR 1), some (pI l1)] [] LY nx (h, r, s) Q ↔ Wp 116 1 [some (pR 1), some (pI l1)] [pI l1] LY nx (h, r, s) Q)) ∧
  (∀ (l1 : Int) (x0 : Int) (nx : Nat) (h r : PF) (s : Int → Int) (Q : PO → PY → Nat → PC → Prop), (Wp 116 1 [some (pR 1), some (pI l1)] [pI x0] LY nx (h, r, s) Q ↔ Wp 122 0 [some (pI x0)] [] LY nx (h, r, s) (Kc 116 1 [some (pR 1), some (pI l1)] 4 [] Q))) ∧
  (∀ (l1 : Int) (nx : Nat) (h r : PF) (s : Int → Int) (Q : PO → PY → Nat → PC → Prop), (Wp 116 4 [some (pR 1), some (pI l1)] [] LY nx (h, r, s) Q ↔ Wp 116 5 [some (pR 1), some (pI l1)] [pR 1] LY nx (h, r, s) Q)) ∧
  (∀ (l1 : Int) (nx : Nat) (h r : PF) (s : Int → Int) (Q : PO → PY → Nat → PC → Prop), WFr r → (Wp 116 5 [some (pR 1), some (pI l1)] [pR 1] LY nx (h, r, s) Q ↔ Wp 116 8 [some (pR 1), some (pI l1)] [pR 21] LY nx (h, r, s) Q)) ∧
  (∀ (l1 : Int) (nx : Nat) (h r : PF) (s : Int → Int) (Q : PO → PY → Nat → PC → Prop), (Wp 116 8 [some (pR 1), some (pI l1)] [pR 21] LY nx (h, r, s) Q ↔ Wp 116 9 [some (pR 1), some (pI l1)] [pI l1, pR 21] LY nx (h, r, s) Q)) ∧
  (∀ (l1 : Int) (x1 : Int) (nx : Nat) (h r : PF) (s : Int → Int) (Q : PO → PY → Nat → PC → Prop), (Wp 116 9 [some (pR 1), some (pI l1)] [pI x1, pR 21] LY nx (h, r, s) Q ↔ Wp 116 10 [some (pR 1), some (pI l1)] [pR 1, pI x1, pR 21] LY nx (h, r, s) Q)) ∧
  (∀ (l1 : Int) (x1 : Int) (nx : Nat) (h r : PF) (s : Int → Int) (Q : PO → PY → Nat → PC → Prop), WFr r → (Wp 116 10 [some (pR 1), some (pI l1)] [pR 1, pI x1, pR 21] LY nx (h, r, s) Q ↔ Wp 116 13 [some (pR 1), some (pI l1)] [pR 144, pI x1, pR 21] LY nx (h, r, s) Q)) ∧
  (∀ (l1 : Int) (x1 : Int) (nx : Nat) (h r : PF) (s : Int → Int) (Q : PO → PY → Nat → PC → Prop), (Wp 116 13 [some (pR 1), some (pI l1)] [pR 144, pI x1, pR 21] LY nx (h, r, s) Q ↔ Wp 16 0 [some (pR 21), some (pI x1), some (pR 144), none] [] LY nx (h, r, s) (Kc 116 13 [some (pR 1), some (pI l1)] 16 [] Q))) ∧
  (∀ (l1 : Int) (x0 : Int) (nx : Nat) (h r : PF) (s : Int → Int) (Q : PO → PY → Nat → PC → Prop), x0 = 0 ∨ x0 = 1 → (Wp 116 16 [some (pR 1), some (pI l1)] [pI x0] LY nx (h, r, s) Q ↔ Q (Sum.inl (some (pI x0))) LY nx (h, r, s))) :=
  ⟨fun l1 nx h r s Q  => o_iload_n (by decide +kernel : pcode 116 0 = some (6, 1, 0, 0, 0)) rfl,
  fun l1 x0 nx h r s Q  => o_ivS (s1 := [pI x0]) (s2 := []) (by decide +kernel : pcode 116 1 = some (77, 122, 1, 1164, 268)) rfl (Nat.le_of_ble_eq_true rfl) rfl rfl rfl,
  fun l1 nx h r s Q  => o_aload_n (by decide +kernel : pcode 116 4 = some (10, 0, 0, 0, 0)) rfl,
  fun l1 nx h r s Q hw => o_getR (h := (h, r, s)) (by decide +kernel : pcode 116 5 = some (57, 445, 7, 3, 33)) (by decide) (by decide +kernel) (hw _ (List.mem_of_getElem? (i := 3) rfl)) (by decide),
  fun l1 nx h r s Q  => o_iload_n (by decide +kernel : pcode 116 8 = some (6, 1, 0, 0, 0)) rfl,
  fun l1 x1 nx h r s Q  => o_aload_n (by decide +kernel : pcode 116 9 = some (10, 0, 0, 0, 0)) rfl,
  fun l1 x1 nx h r s Q hw => o_getR (h := (h, r, s)) (by decide +kernel : pcode 116 10 = some (57, 446, 7, 4, 40)) (by decide) (by decide +kernel) (hw _ (List.mem_of_getElem? (i := 4) rfl)) (by decide),
  fun l1 x1 nx h r s Q  => o_ivV (s1 := [pR 144, pI x1]) (s2 := []) (o := 21) (by decide +kernel : pcode 116 13 = some (78, 16, 3, 1167, 271)) rfl (Nat.le_of_ble_eq_true rfl) (by decide) (by decide +kernel) rfl rfl rfl,
  fun l1 x0 nx h r s Q hz => o_zret (by decide +kernel : pcode 116 16 = some (88, 0, 0, 0, 0)) hz⟩
set_option maxHeartbeats 4000000 in
set_option maxRecDepth 10000 in
theorem st_X7_restoreSnapshot :
  (∀ (l1 : Int) (nx : Nat) (h r : PF) (s : Int → Int) (Q : PO → PY → Nat → PC → Prop), (Wp 117 0 [some (pR 1), some (pI l1)] [] LY nx (h, r, s) Q ↔ Wp 117 1 [some (pR 1), some (pI l1)] [pI l1] LY nx (h, r, s) Q)) ∧
  (∀ (l1 : Int) (x0 : Int) (nx : Nat) (h r : PF) (s : Int → Int) (Q : PO → PY → Nat → PC → Prop), (Wp 117 1 [some (pR 1), some (pI l1)] [pI x0] LY nx (h, r, s) Q ↔ Wp 122 0 [some (pI x0)] [] LY nx (h, r, s) (Kc 117 1 [some (pR 1), some (pI l1)] 4 [] Q))) ∧
  (∀ (l1 : Int) (nx : Nat) (h r : PF) (s : Int → Int) (Q : PO → PY → Nat → PC → Prop), (Wp 117 4 [some (pR 1), some (pI l1)] [] LY nx (h, r, s) Q ↔ Wp 117 5 [some (pR 1), some (pI l1)] [pR 1] LY nx (h, r, s) Q)) ∧
  (∀ (l1 : Int) (nx : Nat) (h r : PF) (s : Int → Int) (Q : PO → PY → Nat → PC → Prop), WFr r → (Wp 117 5 [some (pR 1), some (pI l1)] [pR 1] LY nx (h, r, s) Q ↔ Wp 117 8 [some (pR 1), some (pI l1)] [pR 21] LY nx (h, r, s) Q)) ∧
  (∀ (l1 : Int) (nx : Nat) (h r : PF) (s : Int → Int) (Q : PO → PY → Nat → PC → Prop), (Wp 117 8 [some (pR 1), some (pI l1)] [pR 21] LY nx (h, r, s) Q ↔ Wp 117 9 [some (pR 1), some (pI l1)] [pI l1, pR 21] LY nx (h, r, s) Q)) ∧
  (∀ (l1 : Int) (x1 : Int) (nx : Nat) (h r : PF) (s : Int → Int) (Q : PO → PY → Nat → PC → Prop), (Wp 117 9 [some (pR 1), some (pI l1)] [pI x1, pR 21] LY nx (h, r, s) Q ↔ Wp 15 0 [some (pR 21), some (pI x1)] [] LY nx (h, r, s) (Kc 117 9 [some (pR 1), some (pI l1)] 12 [] Q))) ∧
  (∀ (l1 : Int) (x0 : Int) (nx : Nat) (h r : PF) (s : Int → Int) (Q : PO → PY → Nat → PC → Prop), (Wp 117 12 [some (pR 1), some (pI l1)] [pI x0] LY nx (h, r, s) Q ↔ Wp 124 0 [some (pI x0)] [] LY nx (h, r, s) (Kc 117 12 [some (pR 1), some (pI l1)] 15 [] Q))) ∧
  (∀ (l1 : Int) (nx : Nat) (h r : PF) (s : Int → Int) (Q : PO → PY → Nat → PC → Prop), (Wp 117 15 [some (pR 1), some (pI l1)] [] LY nx (h, r, s) Q ↔ Wp 117 16 [some (pR 1), some (pI l1)] [pR 1] LY nx (h, r, s) Q)) ∧
  (∀ (l1 : Int) (nx : Nat) (h r : PF) (s : Int → Int) (Q : PO → PY → Nat → PC → Prop), WFr r → (Wp 117 16 [some (pR 1), some (pI l1)] [pR 1] LY nx (h, r, s) Q ↔ Wp 117 19 [some (pR 1), some (pI l1)] [pR 21] LY nx (h, r, s) Q)) ∧
  (∀ (l1 : Int) (nx : Nat) (h r : PF) (s : Int → Int) (Q : PO → PY → Nat → PC → Prop), (Wp 117 19 [some (pR 1), some (pI l1)] [pR 21] LY nx (h, r, s) Q ↔ Wp 117 20 [some (pR 1), some (pI l1)] [pI l1, pR 21] LY nx (h, r, s) Q)) ∧
  (∀ (l1 : Int) (x1 : Int) (nx : Nat) (h r : PF) (s : Int → Int) (Q : PO → PY → Nat → PC → Prop), (Wp 117 20 [some (pR 1), some (pI l1)] [pI x1, pR 21] LY nx (h, r, s) Q ↔ Wp 117 21 [some (pR 1), some (pI l1)] [pR 1, pI x1, pR 21] LY nx (h, r, s) Q)) ∧
  (∀ (l1 : Int) (x1 : Int) (nx : Nat) (h r : PF) (s : Int → Int) (Q : PO → PY → Nat → PC → Prop), WFr r → (Wp 117 21 [some (pR 1), some (pI l1)] [pR 1, pI x1, pR 21] LY nx (h, r, s) Q ↔ Wp 117 24 [some (pR 1), some (pI l1)] [pR 144, pI x1, pR 21] LY nx (h, r, s) Q)) ∧
  (∀ (l1 : Int) (x1 : Int) (nx : Nat) (h r : PF) (s : Int → Int) (Q : PO → PY → Nat → PC → Prop), (Wp 117 24 [some (pR 1), some (pI l1)] [pR 144, pI x1, pR 21] LY nx (h, r, s) Q ↔ Wp 17 0 [some (pR 21), some (pI x1), some (pR 144)] [] LY nx (h, r, s) (Kc 117 24 [some (pR 1), some (pI l1)] 27 [] Q))) ∧
  (∀ (l1 : Int) (nx : Nat) (h r : PF) (s : Int → Int) (Q : PO → PY → Nat → PC → Prop), (Wp 117 27 [some (pR 1), some (pI l1)] [] LY nx (h, r, s) Q ↔ Wp 117 28 [some (pR 1), some (pI l1)] [pR 1] LY nx (h, r, s) Q)) ∧
  (∀ (l1 : Int) (nx : Nat) (h r : PF) (s : Int → Int) (Q : PO → PY → Nat → PC → Prop), WFr r → (Wp 117 28 [some (pR 1), some (pI l1)] [pR 1] LY nx (h, r, s) Q ↔ Wp 117 31 [some (pR 1), some (pI l1)] [pR 144] LY nx (h, r, s) Q)) ∧
  (∀ (l1 : Int) (nx : Nat) (h r : PF) (s : Int → Int) (Q : PO → PY → Nat → PC → Prop), (Wp 117 31 [some (pR 1), some (pI l1)] [pR 144] LY nx (h, r, s) Q ↔ Wp 117 34 [some (pR 1), some (pI l1)] [pI (h 144 8)] LY nx (h, r, s) Q)) ∧
  (∀ (l1 : Int) (x0 : Int) (nx : Nat) (h r : PF) (s : Int → Int) (Q : PO → PY → Nat → PC → Prop), (Wp 117 34 [some (pR 1), some (pI l1)] [pI x0] LY nx (h, r, s) Q ↔ Q (Sum.inl (some (pI x0))) LY nx (h, r, s))) :=
  ⟨fun l1 nx h r s Q  => o_iload_n (by decide +kernel : pcode 117 0 = some (6, 1, 0, 0, 0)) rfl,
  fun l1 x0 nx h r s Q  => o_ivS (s1 := [pI x0]) (s2 := []) (by decide +kernel : pcode 117 1 = some (77, 122, 1, 1164, 268)) rfl (Nat.le_of_ble_eq_true rfl) rfl rfl rfl,
  fun l1 nx h r s Q  => o_aload_n (by decide +kernel : pcode 117 4 = some (10, 0, 0, 0, 0)) rfl,
  fun l1 nx h r s Q hw => o_getR (h := (h, r, s)) (by decide +kernel : pcode 117 5 = some (57, 445, 7, 3, 33)) (by decide) (by decide +kernel) (hw _ (List.mem_of_getElem? (i := 3) rfl)) (by decide),
  fun l1 nx h r s Q  => o_iload_n (by decide +kernel : pcode 117 8 = some (6, 1, 0, 0, 0)) rfl,
  fun l1 x1 nx h r s Q  => o_ivV (s1 := [pI x1]) (s2 := []) (o := 21) (by decide +kernel : pcode 117 9 = some (78, 15, 2, 1182, 275)) rfl (Nat.le_of_ble_eq_true rfl) (by decide) (by decide +kernel) rfl rfl rfl,
  fun l1 x0 nx h r s Q  => o_ivS (s1 := [pI x0]) (s2 := []) (by decide +kernel : pcode 117 12 = some (77, 124, 1, 1101, 240)) rfl (Nat.le_of_ble_eq_true rfl) rfl rfl rfl,
  fun l1 nx h r s Q  => o_aload_n (by decide +kernel : pcode 117 15 = some (10, 0, 0, 0, 0)) rfl,
  fun l1 nx h r s Q hw => o_getR (h := (h, r, s)) (by decide +kernel : pcode 117 16 = some (57, 445, 7, 3, 33)) (by decide) (by decide +kernel) (hw _ (List.mem_of_getElem? (i := 3) rfl)) (by decide),
  fun l1 nx h r s Q  => o_iload_n (by decide +kernel : pcode 117 19 = some (6, 1, 0, 0, 0)) rfl,
  fun l1 x1 nx h r s Q  => o_aload_n (by decide +kernel : pcode 117 20 = some (10, 0, 0, 0, 0)) rfl,
  fun l1 x1 nx h r s Q hw => o_getR (h := (h, r, s)) (by decide +kernel : pcode 117 21 = some (57, 446, 7, 4, 40)) (by decide) (by decide +kernel) (hw _ (List.mem_of_getElem? (i := 4) rfl)) (by decide),
  fun l1 x1 nx h r s Q  => o_ivV (s1 := [pR 144, pI x1]) (s2 := []) (o := 21) (by decide +kernel : pcode 117 24 = some (78, 17, 3, 1183, 278)) rfl (Nat.le_of_ble_eq_true rfl) (by decide) (by decide +kernel) rfl rfl rfl,
  fun l1 nx h r s Q  => o_aload_n (by decide +kernel : pcode 117 27 = some (10, 0, 0, 0, 0)) rfl,
  fun l1 nx h r s Q hw => o_getR (h := (h, r, s)) (by decide +kernel : pcode 117 28 = some (57, 446, 7, 4, 40)) (by decide) (by decide +kernel) (hw _ (List.mem_of_getElem? (i := 4) rfl)) (by decide),
  fun l1 nx h r s Q  => o_getI (by decide +kernel : pcode 117 31 = some (55, 296, 5, 8, 92)) (by decide) (by decide +kernel),
  fun l1 x0 nx h r s Q  => o_iret (by decide +kernel : pcode 117 34 = some (87, 0, 0, 0, 0))⟩
set_option maxHeartbeats 4000000 in
set_option maxRecDepth 10000 in
theorem st_X7_checkMachine :
  (∀ (l1 : Int) (nx : Nat) (h r : PF) (s : Int → Int) (Q : PO → PY → Nat → PC → Prop), (Wp 118 0 [some (pR 1), some (pI l1)] [] LY nx (h, r, s) Q ↔ Wp 118 1 [some (pR 1), some (pI l1)] [pI l1] LY nx (h, r, s) Q)) ∧
  (∀ (l1 : Int) (x0 : Int) (nx : Nat) (h r : PF) (s : Int → Int) (Q : PO → PY → Nat → PC → Prop), (Wp 118 1 [some (pR 1), some (pI l1)] [pI x0] LY nx (h, r, s) Q ↔ (if x0 < 0 then Wp 118 15 [some (pR 1), some (pI l1)] [] LY nx (h, r, s) Q else Wp 118 4 [some (pR 1), some (pI l1)] [] LY nx (h, r, s) Q))) ∧
  (∀ (l1 : Int) (nx : Nat) (h r : PF) (s : Int → Int) (Q : PO → PY → Nat → PC → Prop), (Wp 118 4 [some (pR 1), some (pI l1)] [] LY nx (h, r, s) Q ↔ Wp 118 5 [some (pR 1), some (pI l1)] [pI l1] LY nx (h, r, s) Q)) ∧
  (∀ (l1 : Int) (x0 : Int) (nx : Nat) (h r : PF) (s : Int → Int) (Q : PO → PY → Nat → PC → Prop), (Wp 118 5 [some (pR 1), some (pI l1)] [pI x0] LY nx (h, r, s) Q ↔ Wp 118 6 [some (pR 1), some (pI l1)] [pR 1, pI x0] LY nx (h, r, s) Q)) ∧
  (∀ (l1 : Int) (x0 : Int) (nx : Nat) (h r : PF) (s : Int → Int) (Q : PO → PY → Nat → PC → Prop), 0 < (r 1 6) → (Wp 118 6 [some (pR 1), some (pI l1)] [pR 1, pI x0] LY nx (h, r, s) Q ↔ Wp 118 9 [some (pR 1), some (pI l1)] [pR (r 1 6), pI x0] LY nx (h, r, s) Q)) ∧
  (∀ (l1 : Int) (x0 : Int) (x1 : Int) (nx : Nat) (h r : PF) (s : Int → Int) (Q : PO → PY → Nat → PC → Prop), 0 < x1 → kd LY x1 = (0, 2) → (Wp 118 9 [some (pR 1), some (pI l1)] [pR x1, pI x0] LY nx (h, r, s) Q ↔ Wp 118 12 [some (pR 1), some (pI l1)] [pI (h x1 1), pI x0] LY nx (h, r, s) Q)) ∧
  (∀ (l1 : Int) (x0 : Int) (x1 : Int) (nx : Nat) (h r : PF) (s : Int → Int) (Q : PO → PY → Nat → PC → Prop), (Wp 118 12 [some (pR 1), some (pI l1)] [pI x1, pI x0] LY nx (h, r, s) Q ↔ (if x0 < x1 then Wp 118 23 [some (pR 1), some (pI l1)] [] LY nx (h, r, s) Q else Wp 118 15 [some (pR 1), some (pI l1)] [] LY nx (h, r, s) Q))) ∧
  (∀ (l1 : Int) (nx : Nat) (h r : PF) (s : Int → Int) (Q : PO → PY → Nat → PC → Prop), (Wp 118 15 [some (pR 1), some (pI l1)] [] LY nx (h, r, s) Q ↔ Q (Sum.inr 1) LY (nx + 1) (h, r, s))) ∧
  (∀ (l1 : Int) (nx : Nat) (h r : PF) (s : Int → Int) (Q : PO → PY → Nat → PC → Prop), (Wp 118 23 [some (pR 1), some (pI l1)] [] LY nx (h, r, s) Q ↔ Q (Sum.inl none) LY nx (h, r, s))) :=
  ⟨fun l1 nx h r s Q  => o_iload_n (by decide +kernel : pcode 118 0 = some (6, 1, 0, 0, 0)) rfl,
  fun l1 x0 nx h r s Q  => o_if_lt (by decide +kernel : pcode 118 1 = some (43, 15, 0, 0, 14)),
  fun l1 nx h r s Q  => o_iload_n (by decide +kernel : pcode 118 4 = some (6, 1, 0, 0, 0)) rfl,
  fun l1 x0 nx h r s Q  => o_aload_n (by decide +kernel : pcode 118 5 = some (10, 0, 0, 0, 0)) rfl,
  fun l1 x0 nx h r s Q h9 => o_getR (h := (h, r, s)) (by decide +kernel : pcode 118 6 = some (57, 448, 7, 6, 50)) (by decide) (by decide +kernel) rfl h9,
  fun l1 x0 x1 nx h r s Q h0 hk => o_getI (by decide +kernel : pcode 118 9 = some (55, 379, 2, 1, 86)) h0 hk,
  fun l1 x0 x1 nx h r s Q  => o_icmp_lt (by decide +kernel : pcode 118 12 = some (49, 23, 0, 0, 11)),
  fun l1 nx h r s Q  => o_throw (by decide +kernel : pcode 118 15 = some (83, 1, 282, 284, 0)) (Nat.le_of_ble_eq_true rfl) (by decide),
  fun l1 nx h r s Q  => o_vret (by decide +kernel : pcode 118 23 = some (90, 0, 0, 0, 0))⟩
set_option maxHeartbeats 4000000 in
set_option maxRecDepth 10000 in
theorem st_X7_checkState :
  (∀ (l1 : Int) (l2 : Int) (nx : Nat) (h r : PF) (s : Int → Int) (Q : PO → PY → Nat → PC → Prop), (Wp 119 0 [some (pR 1), some (pI l1), some (pI l2)] [] LY nx (h, r, s) Q ↔ Wp 119 1 [some (pR 1), some (pI l1), some (pI l2)] [pR 1] LY nx (h, r, s) Q)) ∧
  (∀ (l1 : Int) (l2 : Int) (nx : Nat) (h r : PF) (s : Int → Int) (Q : PO → PY → Nat → PC → Prop), (Wp 119 1 [some (pR 1), some (pI l1), some (pI l2)] [pR 1] LY nx (h, r, s) Q ↔ Wp 119 2 [some (pR 1), some (pI l1), some (pI l2)] [pI l1, pR 1] LY nx (h, r, s) Q)) ∧
  (∀ (l1 : Int) (l2 : Int) (x1 : Int) (nx : Nat) (h r : PF) (s : Int → Int) (Q : PO → PY → Nat → PC → Prop), (Wp 119 2 [some (pR 1), some (pI l1), some (pI l2)] [pI x1, pR 1] LY nx (h, r, s) Q ↔ Wp 118 0 [some (pR 1), some (pI x1)] [] LY nx (h, r, s) (Kc 119 2 [some (pR 1), some (pI l1), some (pI l2)] 5 [] Q))) ∧
  (∀ (l1 : Int) (l2 : Int) (nx : Nat) (h r : PF) (s : Int → Int) (Q : PO → PY → Nat → PC → Prop), (Wp 119 5 [some (pR 1), some (pI l1), some (pI l2)] [] LY nx (h, r, s) Q ↔ Wp 119 6 [some (pR 1), some (pI l1), some (pI l2)] [pI l2] LY nx (h, r, s) Q)) ∧
  (∀ (l1 : Int) (l2 : Int) (x0 : Int) (nx : Nat) (h r : PF) (s : Int → Int) (Q : PO → PY → Nat → PC → Prop), (Wp 119 6 [some (pR 1), some (pI l1), some (pI l2)] [pI x0] LY nx (h, r, s) Q ↔ (if x0 < 0 then Wp 119 22 [some (pR 1), some (pI l1), some (pI l2)] [] LY nx (h, r, s) Q else Wp 119 9 [some (pR 1), some (pI l1), some (pI l2)] [] LY nx (h, r, s) Q))) ∧
  (∀ (l1 : Int) (l2 : Int) (nx : Nat) (h r : PF) (s : Int → Int) (Q : PO → PY → Nat → PC → Prop), (Wp 119 9 [some (pR 1), some (pI l1), some (pI l2)] [] LY nx (h, r, s) Q ↔ Wp 119 10 [some (pR 1), some (pI l1), some (pI l2)] [pI l2] LY nx (h, r, s) Q)) ∧
  (∀ (l1 : Int) (l2 : Int) (x0 : Int) (nx : Nat) (h r : PF) (s : Int → Int) (Q : PO → PY → Nat → PC → Prop), (Wp 119 10 [some (pR 1), some (pI l1), some (pI l2)] [pI x0] LY nx (h, r, s) Q ↔ Wp 119 11 [some (pR 1), some (pI l1), some (pI l2)] [pR 1, pI x0] LY nx (h, r, s) Q)) ∧
  (∀ (l1 : Int) (l2 : Int) (x0 : Int) (nx : Nat) (h r : PF) (s : Int → Int) (Q : PO → PY → Nat → PC → Prop), 0 < (r 1 6) → (Wp 119 11 [some (pR 1), some (pI l1), some (pI l2)] [pR 1, pI x0] LY nx (h, r, s) Q ↔ Wp 119 14 [some (pR 1), some (pI l1), some (pI l2)] [pR (r 1 6), pI x0] LY nx (h, r, s) Q)) ∧
  (∀ (l1 : Int) (l2 : Int) (x0 : Int) (x1 : Int) (nx : Nat) (h r : PF) (s : Int → Int) (Q : PO → PY → Nat → PC → Prop), 0 < x1 → kd LY x1 = (0, 2) → r x1 7 = x1 + 3 → 0 < x1 + 3 → (Wp 119 14 [some (pR 1), some (pI l1), some (pI l2)] [pR x1, pI x0] LY nx (h, r, s) Q ↔ Wp 119 17 [some (pR 1), some (pI l1), some (pI l2)] [pR (x1 + 3), pI x0] LY nx (h, r, s) Q)) ∧
  (∀ (l1 : Int) (l2 : Int) (x0 : Int) (x1 : Int) (nx : Nat) (h r : PF) (s : Int → Int) (Q : PO → PY → Nat → PC → Prop), (Wp 119 17 [some (pR 1), some (pI l1), some (pI l2)] [pR x1, pI x0] LY nx (h, r, s) Q ↔ Wp 119 18 [some (pR 1), some (pI l1), some (pI l2)] [pI l1, pR x1, pI x0] LY nx (h, r, s) Q)) ∧
  (∀ (l1 : Int) (l2 : Int) (x0 : Int) (x1 : Int) (x2 : Int) (nx : Nat) (h r : PF) (s : Int → Int) (Q : PO → PY → Nat → PC → Prop), 0 < x1 → kd LY x1 = (1, 4) → 0 ≤ x2 → x2 < 4 → (Wp 119 18 [some (pR 1), some (pI l1), some (pI l2)] [pI x2, pR x1, pI x0] LY nx (h, r, s) Q ↔ Wp 119 19 [some (pR 1), some (pI l1), some (pI l2)] [pI (h x1 x2), pI x0] LY nx (h, r, s) Q)) ∧
  (∀ (l1 : Int) (l2 : Int) (x0 : Int) (x1 : Int) (nx : Nat) (h r : PF) (s : Int → Int) (Q : PO → PY → Nat → PC → Prop), (Wp 119 19 [some (pR 1), some (pI l1), some (pI l2)] [pI x1, pI x0] LY nx (h, r, s) Q ↔ (if x0 < x1 then Wp 119 30 [some (pR 1), some (pI l1), some (pI l2)] [] LY nx (h, r, s) Q else Wp 119 22 [some (pR 1), some (pI l1), some (pI l2)] [] LY nx (h, r, s) Q))) ∧
  (∀ (l1 : Int) (l2 : Int) (nx : Nat) (h r : PF) (s : Int → Int) (Q : PO → PY → Nat → PC → Prop), (Wp 119 22 [some (pR 1), some (pI l1), some (pI l2)] [] LY nx (h, r, s) Q ↔ Q (Sum.inr 1) LY (nx + 1) (h, r, s))) ∧
  (∀ (l1 : Int) (l2 : Int) (nx : Nat) (h r : PF) (s : Int → Int) (Q : PO → PY → Nat → PC → Prop), (Wp 119 30 [some (pR 1), some (pI l1), some (pI l2)] [] LY nx (h, r, s) Q ↔ Q (Sum.inl none) LY nx (h, r, s))) :=
  ⟨fun l1 l2 nx h r s Q  => o_aload_n (by decide +kernel : pcode 119 0 = some (10, 0, 0, 0, 0)) rfl,
  fun l1 l2 nx h r s Q  => o_iload_n (by decide +kernel : pcode 119 1 = some (6, 1, 0, 0, 0)) rfl,
  fun l1 l2 x1 nx h r s Q  => o_ivV (s1 := [pI x1]) (s2 := []) (o := 1) (by decide +kernel : pcode 119 2 = some (78, 118, 2, 816, 116)) rfl (Nat.le_of_ble_eq_true rfl) (by decide) (by decide +kernel) rfl rfl rfl,
  fun l1 l2 nx h r s Q  => o_iload_n (by decide +kernel : pcode 119 5 = some (6, 2, 0, 0, 0)) rfl,
  fun l1 l2 x0 nx h r s Q  => o_if_lt (by decide +kernel : pcode 119 6 = some (43, 22, 0, 0, 16)),
  fun l1 l2 nx h r s Q  => o_iload_n (by decide +kernel : pcode 119 9 = some (6, 2, 0, 0, 0)) rfl,
  fun l1 l2 x0 nx h r s Q  => o_aload_n (by decide +kernel : pcode 119 10 = some (10, 0, 0, 0, 0)) rfl,
  fun l1 l2 x0 nx h r s Q h9 => o_getR (h := (h, r, s)) (by decide +kernel : pcode 119 11 = some (57, 448, 7, 6, 50)) (by decide) (by decide +kernel) rfl h9,
  fun l1 l2 x0 x1 nx h r s Q h0 hk h9 h8 => o_getR (h := (h, r, s)) (by decide +kernel : pcode 119 14 = some (57, 400, 2, 7, 129)) h0 hk h9 h8,
  fun l1 l2 x0 x1 nx h r s Q  => o_iload_n (by decide +kernel : pcode 119 17 = some (6, 1, 0, 0, 0)) rfl,
  fun l1 l2 x0 x1 x2 nx h r s Q h0 hk hi hn => o_iald (h := (h, r, s)) (n := 4) (by decide +kernel : pcode 119 18 = some (63, 0, 0, 0, 0)) h0 hk hi hn,
  fun l1 l2 x0 x1 nx h r s Q  => o_icmp_lt (by decide +kernel : pcode 119 19 = some (49, 30, 0, 0, 11)),
  fun l1 l2 nx h r s Q  => o_throw (by decide +kernel : pcode 119 22 = some (83, 1, 282, 284, 0)) (Nat.le_of_ble_eq_true rfl) (by decide),
  fun l1 l2 nx h r s Q  => o_vret (by decide +kernel : pcode 119 30 = some (90, 0, 0, 0, 0))⟩
set_option maxHeartbeats 4000000 in
set_option maxRecDepth 10000 in
theorem st_X7_checkLetter :
  (∀ (l1 : Int) (nx : Nat) (h r : PF) (s : Int → Int) (Q : PO → PY → Nat → PC → Prop), (Wp 120 0 [some (pR 1), some (pI l1)] [] LY nx (h, r, s) Q ↔ Wp 120 1 [some (pR 1), some (pI l1)] [pI l1] LY nx (h, r, s) Q)) ∧
  (∀ (l1 : Int) (x0 : Int) (nx : Nat) (h r : PF) (s : Int → Int) (Q : PO → PY → Nat → PC → Prop), (Wp 120 1 [some (pR 1), some (pI l1)] [pI x0] LY nx (h, r, s) Q ↔ (if x0 < 0 then Wp 120 15 [some (pR 1), some (pI l1)] [] LY nx (h, r, s) Q else Wp 120 4 [some (pR 1), some (pI l1)] [] LY nx (h, r, s) Q))) ∧
  (∀ (l1 : Int) (nx : Nat) (h r : PF) (s : Int → Int) (Q : PO → PY → Nat → PC → Prop), (Wp 120 4 [some (pR 1), some (pI l1)] [] LY nx (h, r, s) Q ↔ Wp 120 5 [some (pR 1), some (pI l1)] [pI l1] LY nx (h, r, s) Q)) ∧
  (∀ (l1 : Int) (x0 : Int) (nx : Nat) (h r : PF) (s : Int → Int) (Q : PO → PY → Nat → PC → Prop), (Wp 120 5 [some (pR 1), some (pI l1)] [pI x0] LY nx (h, r, s) Q ↔ Wp 120 6 [some (pR 1), some (pI l1)] [pR 1, pI x0] LY nx (h, r, s) Q)) ∧
  (∀ (l1 : Int) (x0 : Int) (nx : Nat) (h r : PF) (s : Int → Int) (Q : PO → PY → Nat → PC → Prop), 0 < (r 1 6) → (Wp 120 6 [some (pR 1), some (pI l1)] [pR 1, pI x0] LY nx (h, r, s) Q ↔ Wp 120 9 [some (pR 1), some (pI l1)] [pR (r 1 6), pI x0] LY nx (h, r, s) Q)) ∧
  (∀ (l1 : Int) (x0 : Int) (x1 : Int) (nx : Nat) (h r : PF) (s : Int → Int) (Q : PO → PY → Nat → PC → Prop), 0 < x1 → kd LY x1 = (0, 2) → (Wp 120 9 [some (pR 1), some (pI l1)] [pR x1, pI x0] LY nx (h, r, s) Q ↔ Wp 120 12 [some (pR 1), some (pI l1)] [pI (h x1 0), pI x0] LY nx (h, r, s) Q)) ∧
  (∀ (l1 : Int) (x0 : Int) (x1 : Int) (nx : Nat) (h r : PF) (s : Int → Int) (Q : PO → PY → Nat → PC → Prop), (Wp 120 12 [some (pR 1), some (pI l1)] [pI x1, pI x0] LY nx (h, r, s) Q ↔ (if x0 < x1 then Wp 120 23 [some (pR 1), some (pI l1)] [] LY nx (h, r, s) Q else Wp 120 15 [some (pR 1), some (pI l1)] [] LY nx (h, r, s) Q))) ∧
  (∀ (l1 : Int) (nx : Nat) (h r : PF) (s : Int → Int) (Q : PO → PY → Nat → PC → Prop), (Wp 120 15 [some (pR 1), some (pI l1)] [] LY nx (h, r, s) Q ↔ Q (Sum.inr 1) LY (nx + 1) (h, r, s))) ∧
  (∀ (l1 : Int) (nx : Nat) (h r : PF) (s : Int → Int) (Q : PO → PY → Nat → PC → Prop), (Wp 120 23 [some (pR 1), some (pI l1)] [] LY nx (h, r, s) Q ↔ Q (Sum.inl none) LY nx (h, r, s))) :=
  ⟨fun l1 nx h r s Q  => o_iload_n (by decide +kernel : pcode 120 0 = some (6, 1, 0, 0, 0)) rfl,
  fun l1 x0 nx h r s Q  => o_if_lt (by decide +kernel : pcode 120 1 = some (43, 15, 0, 0, 14)),
  fun l1 nx h r s Q  => o_iload_n (by decide +kernel : pcode 120 4 = some (6, 1, 0, 0, 0)) rfl,
  fun l1 x0 nx h r s Q  => o_aload_n (by decide +kernel : pcode 120 5 = some (10, 0, 0, 0, 0)) rfl,
  fun l1 x0 nx h r s Q h9 => o_getR (h := (h, r, s)) (by decide +kernel : pcode 120 6 = some (57, 448, 7, 6, 50)) (by decide) (by decide +kernel) rfl h9,
  fun l1 x0 x1 nx h r s Q h0 hk => o_getI (by decide +kernel : pcode 120 9 = some (55, 374, 2, 0, 89)) h0 hk,
  fun l1 x0 x1 nx h r s Q  => o_icmp_lt (by decide +kernel : pcode 120 12 = some (49, 23, 0, 0, 11)),
  fun l1 nx h r s Q  => o_throw (by decide +kernel : pcode 120 15 = some (83, 1, 282, 284, 0)) (Nat.le_of_ble_eq_true rfl) (by decide),
  fun l1 nx h r s Q  => o_vret (by decide +kernel : pcode 120 23 = some (90, 0, 0, 0, 0))⟩
set_option maxHeartbeats 4000000 in
set_option maxRecDepth 10000 in
theorem st_X7_checkSet :
  (∀ (l1 : Int) (nx : Nat) (h r : PF) (s : Int → Int) (Q : PO → PY → Nat → PC → Prop), (Wp 121 0 [some (pR 1), some (pI l1)] [] LY nx (h, r, s) Q ↔ Wp 121 1 [some (pR 1), some (pI l1)] [pI l1] LY nx (h, r, s) Q)) ∧
  (∀ (l1 : Int) (x0 : Int) (nx : Nat) (h r : PF) (s : Int → Int) (Q : PO → PY → Nat → PC → Prop), (Wp 121 1 [some (pR 1), some (pI l1)] [pI x0] LY nx (h, r, s) Q ↔ (if x0 < 0 then Wp 121 17 [some (pR 1), some (pI l1)] [] LY nx (h, r, s) Q else Wp 121 4 [some (pR 1), some (pI l1)] [] LY nx (h, r, s) Q))) ∧
  (∀ (l1 : Int) (nx : Nat) (h r : PF) (s : Int → Int) (Q : PO → PY → Nat → PC → Prop), (Wp 121 4 [some (pR 1), some (pI l1)] [] LY nx (h, r, s) Q ↔ Wp 121 5 [some (pR 1), some (pI l1)] [pI l1] LY nx (h, r, s) Q)) ∧
  (∀ (l1 : Int) (x0 : Int) (nx : Nat) (h r : PF) (s : Int → Int) (Q : PO → PY → Nat → PC → Prop), (Wp 121 5 [some (pR 1), some (pI l1)] [pI x0] LY nx (h, r, s) Q ↔ Wp 121 6 [some (pR 1), some (pI l1)] [pI 1, pI x0] LY nx (h, r, s) Q)) ∧
  (∀ (l1 : Int) (x0 : Int) (x1 : Int) (nx : Nat) (h r : PF) (s : Int → Int) (Q : PO → PY → Nat → PC → Prop), (Wp 121 6 [some (pR 1), some (pI l1)] [pI x1, pI x0] LY nx (h, r, s) Q ↔ Wp 121 7 [some (pR 1), some (pI l1)] [pR 1, pI x1, pI x0] LY nx (h, r, s) Q)) ∧
  (∀ (l1 : Int) (x0 : Int) (x1 : Int) (nx : Nat) (h r : PF) (s : Int → Int) (Q : PO → PY → Nat → PC → Prop), 0 < (r 1 6) → (Wp 121 7 [some (pR 1), some (pI l1)] [pR 1, pI x1, pI x0] LY nx (h, r, s) Q ↔ Wp 121 10 [some (pR 1), some (pI l1)] [pR (r 1 6), pI x1, pI x0] LY nx (h, r, s) Q)) ∧
  (∀ (l1 : Int) (x0 : Int) (x1 : Int) (x2 : Int) (nx : Nat) (h r : PF) (s : Int → Int) (Q : PO → PY → Nat → PC → Prop), 0 < x2 → kd LY x2 = (0, 2) → (Wp 121 10 [some (pR 1), some (pI l1)] [pR x2, pI x1, pI x0] LY nx (h, r, s) Q ↔ Wp 121 13 [some (pR 1), some (pI l1)] [pI (h x2 1), pI x1, pI x0] LY nx (h, r, s) Q)) ∧
  (∀ (l1 : Int) (x0 : Int) (x1 : Int) (x2 : Int) (nx : Nat) (h r : PF) (s : Int → Int) (Q : PO → PY → Nat → PC → Prop), (Wp 121 13 [some (pR 1), some (pI l1)] [pI x2, pI x1, pI x0] LY nx (h, r, s) Q ↔ Wp 121 14 [some (pR 1), some (pI l1)] [pI (pshl x1 x2), pI x0] LY nx (h, r, s) Q)) ∧
  (∀ (l1 : Int) (x0 : Int) (x1 : Int) (nx : Nat) (h r : PF) (s : Int → Int) (Q : PO → PY → Nat → PC → Prop), (Wp 121 14 [some (pR 1), some (pI l1)] [pI x1, pI x0] LY nx (h, r, s) Q ↔ (if x0 < x1 then Wp 121 25 [some (pR 1), some (pI l1)] [] LY nx (h, r, s) Q else Wp 121 17 [some (pR 1), some (pI l1)] [] LY nx (h, r, s) Q))) ∧
  (∀ (l1 : Int) (nx : Nat) (h r : PF) (s : Int → Int) (Q : PO → PY → Nat → PC → Prop), (Wp 121 17 [some (pR 1), some (pI l1)] [] LY nx (h, r, s) Q ↔ Q (Sum.inr 1) LY (nx + 1) (h, r, s))) ∧
  (∀ (l1 : Int) (nx : Nat) (h r : PF) (s : Int → Int) (Q : PO → PY → Nat → PC → Prop), (Wp 121 25 [some (pR 1), some (pI l1)] [] LY nx (h, r, s) Q ↔ Q (Sum.inl none) LY nx (h, r, s))) :=
  ⟨fun l1 nx h r s Q  => o_iload_n (by decide +kernel : pcode 121 0 = some (6, 1, 0, 0, 0)) rfl,
  fun l1 x0 nx h r s Q  => o_if_lt (by decide +kernel : pcode 121 1 = some (43, 17, 0, 0, 16)),
  fun l1 nx h r s Q  => o_iload_n (by decide +kernel : pcode 121 4 = some (6, 1, 0, 0, 0)) rfl,
  fun l1 x0 nx h r s Q  => o_iconst (by decide +kernel : pcode 121 5 = some (1, 0, 0, 0, 1)),
  fun l1 x0 x1 nx h r s Q  => o_aload_n (by decide +kernel : pcode 121 6 = some (10, 0, 0, 0, 0)) rfl,
  fun l1 x0 x1 nx h r s Q h9 => o_getR (h := (h, r, s)) (by decide +kernel : pcode 121 7 = some (57, 448, 7, 6, 50)) (by decide) (by decide +kernel) rfl h9,
  fun l1 x0 x1 x2 nx h r s Q h0 hk => o_getI (by decide +kernel : pcode 121 10 = some (55, 379, 2, 1, 86)) h0 hk,
  fun l1 x0 x1 x2 nx h r s Q  => o_ishl (by decide +kernel : pcode 121 13 = some (26, 0, 0, 0, 0)),
  fun l1 x0 x1 nx h r s Q  => o_icmp_lt (by decide +kernel : pcode 121 14 = some (49, 25, 0, 0, 11)),
  fun l1 nx h r s Q  => o_throw (by decide +kernel : pcode 121 17 = some (83, 1, 282, 284, 0)) (Nat.le_of_ble_eq_true rfl) (by decide),
  fun l1 nx h r s Q  => o_vret (by decide +kernel : pcode 121 25 = some (90, 0, 0, 0, 0))⟩
set_option maxHeartbeats 4000000 in
set_option maxRecDepth 10000 in
theorem st_X7_checkSlot :
  (∀ (l0 : Int) (nx : Nat) (h r : PF) (s : Int → Int) (Q : PO → PY → Nat → PC → Prop), (Wp 122 0 [some (pI l0)] [] LY nx (h, r, s) Q ↔ Wp 122 1 [some (pI l0)] [pI l0] LY nx (h, r, s) Q)) ∧
  (∀ (l0 : Int) (x0 : Int) (nx : Nat) (h r : PF) (s : Int → Int) (Q : PO → PY → Nat → PC → Prop), (Wp 122 1 [some (pI l0)] [pI x0] LY nx (h, r, s) Q ↔ (if x0 < 0 then Wp 122 9 [some (pI l0)] [] LY nx (h, r, s) Q else Wp 122 4 [some (pI l0)] [] LY nx (h, r, s) Q))) ∧
  (∀ (l0 : Int) (nx : Nat) (h r : PF) (s : Int → Int) (Q : PO → PY → Nat → PC → Prop), (Wp 122 4 [some (pI l0)] [] LY nx (h, r, s) Q ↔ Wp 122 5 [some (pI l0)] [pI l0] LY nx (h, r, s) Q)) ∧
  (∀ (l0 : Int) (x0 : Int) (nx : Nat) (h r : PF) (s : Int → Int) (Q : PO → PY → Nat → PC → Prop), (Wp 122 5 [some (pI l0)] [pI x0] LY nx (h, r, s) Q ↔ Wp 122 6 [some (pI l0)] [pI 2, pI x0] LY nx (h, r, s) Q)) ∧
  (∀ (l0 : Int) (x0 : Int) (x1 : Int) (nx : Nat) (h r : PF) (s : Int → Int) (Q : PO → PY → Nat → PC → Prop), (Wp 122 6 [some (pI l0)] [pI x1, pI x0] LY nx (h, r, s) Q ↔ (if x0 < x1 then Wp 122 17 [some (pI l0)] [] LY nx (h, r, s) Q else Wp 122 9 [some (pI l0)] [] LY nx (h, r, s) Q))) ∧
  (∀ (l0 : Int) (nx : Nat) (h r : PF) (s : Int → Int) (Q : PO → PY → Nat → PC → Prop), (Wp 122 9 [some (pI l0)] [] LY nx (h, r, s) Q ↔ Q (Sum.inr 1) LY (nx + 1) (h, r, s))) ∧
  (∀ (l0 : Int) (nx : Nat) (h r : PF) (s : Int → Int) (Q : PO → PY → Nat → PC → Prop), (Wp 122 17 [some (pI l0)] [] LY nx (h, r, s) Q ↔ Q (Sum.inl none) LY nx (h, r, s))) :=
  ⟨fun l0 nx h r s Q  => o_iload_n (by decide +kernel : pcode 122 0 = some (6, 0, 0, 0, 0)) rfl,
  fun l0 x0 nx h r s Q  => o_if_lt (by decide +kernel : pcode 122 1 = some (43, 9, 0, 0, 8)),
  fun l0 nx h r s Q  => o_iload_n (by decide +kernel : pcode 122 4 = some (6, 0, 0, 0, 0)) rfl,
  fun l0 x0 nx h r s Q  => o_iconst (by decide +kernel : pcode 122 5 = some (1, 0, 0, 0, 2)),
  fun l0 x0 x1 nx h r s Q  => o_icmp_lt (by decide +kernel : pcode 122 6 = some (49, 17, 0, 0, 11)),
  fun l0 nx h r s Q  => o_throw (by decide +kernel : pcode 122 9 = some (83, 1, 282, 284, 0)) (Nat.le_of_ble_eq_true rfl) (by decide),
  fun l0 nx h r s Q  => o_vret (by decide +kernel : pcode 122 17 = some (90, 0, 0, 0, 0))⟩
set_option maxHeartbeats 4000000 in
set_option maxRecDepth 10000 in
theorem st_X7_checkArgument :
  (∀ (l0 : Int) (l1 : Int) (l2 : Int) (nx : Nat) (h r : PF) (s : Int → Int) (Q : PO → PY → Nat → PC → Prop), (Wp 123 0 [some (pI l0), some (pI l1), some (pI l2)] [] LY nx (h, r, s) Q ↔ Wp 123 1 [some (pI l0), some (pI l1), some (pI l2)] [pI l0] LY nx (h, r, s) Q)) ∧
  (∀ (l0 : Int) (l1 : Int) (l2 : Int) (x0 : Int) (nx : Nat) (h r : PF) (s : Int → Int) (Q : PO → PY → Nat → PC → Prop), (Wp 123 1 [some (pI l0), some (pI l1), some (pI l2)] [pI x0] LY nx (h, r, s) Q ↔ Wp 123 2 [some (pI l0), some (pI l1), some (pI l2)] [pI l1, pI x0] LY nx (h, r, s) Q)) ∧
  (∀ (l0 : Int) (l1 : Int) (l2 : Int) (x0 : Int) (x1 : Int) (nx : Nat) (h r : PF) (s : Int → Int) (Q : PO → PY → Nat → PC → Prop), (Wp 123 2 [some (pI l0), some (pI l1), some (pI l2)] [pI x1, pI x0] LY nx (h, r, s) Q ↔ (if x0 < x1 then Wp 123 10 [some (pI l0), some (pI l1), some (pI l2)] [] LY nx (h, r, s) Q else Wp 123 5 [some (pI l0), some (pI l1), some (pI l2)] [] LY nx (h, r, s) Q))) ∧
  (∀ (l0 : Int) (l1 : Int) (l2 : Int) (nx : Nat) (h r : PF) (s : Int → Int) (Q : PO → PY → Nat → PC → Prop), (Wp 123 5 [some (pI l0), some (pI l1), some (pI l2)] [] LY nx (h, r, s) Q ↔ Wp 123 6 [some (pI l0), some (pI l1), some (pI l2)] [pI l0] LY nx (h, r, s) Q)) ∧
  (∀ (l0 : Int) (l1 : Int) (l2 : Int) (x0 : Int) (nx : Nat) (h r : PF) (s : Int → Int) (Q : PO → PY → Nat → PC → Prop), (Wp 123 6 [some (pI l0), some (pI l1), some (pI l2)] [pI x0] LY nx (h, r, s) Q ↔ Wp 123 7 [some (pI l0), some (pI l1), some (pI l2)] [pI l2, pI x0] LY nx (h, r, s) Q)) ∧
  (∀ (l0 : Int) (l1 : Int) (l2 : Int) (x0 : Int) (x1 : Int) (nx : Nat) (h r : PF) (s : Int → Int) (Q : PO → PY → Nat → PC → Prop), (Wp 123 7 [some (pI l0), some (pI l1), some (pI l2)] [pI x1, pI x0] LY nx (h, r, s) Q ↔ (if x0 ≤ x1 then Wp 123 18 [some (pI l0), some (pI l1), some (pI l2)] [] LY nx (h, r, s) Q else Wp 123 10 [some (pI l0), some (pI l1), some (pI l2)] [] LY nx (h, r, s) Q))) ∧
  (∀ (l0 : Int) (l1 : Int) (l2 : Int) (nx : Nat) (h r : PF) (s : Int → Int) (Q : PO → PY → Nat → PC → Prop), (Wp 123 10 [some (pI l0), some (pI l1), some (pI l2)] [] LY nx (h, r, s) Q ↔ Q (Sum.inr 0) LY (nx + 1) (h, r, s))) ∧
  (∀ (l0 : Int) (l1 : Int) (l2 : Int) (nx : Nat) (h r : PF) (s : Int → Int) (Q : PO → PY → Nat → PC → Prop), (Wp 123 18 [some (pI l0), some (pI l1), some (pI l2)] [] LY nx (h, r, s) Q ↔ Q (Sum.inl none) LY nx (h, r, s))) :=
  ⟨fun l0 l1 l2 nx h r s Q  => o_iload_n (by decide +kernel : pcode 123 0 = some (6, 0, 0, 0, 0)) rfl,
  fun l0 l1 l2 x0 nx h r s Q  => o_iload_n (by decide +kernel : pcode 123 1 = some (6, 1, 0, 0, 0)) rfl,
  fun l0 l1 l2 x0 x1 nx h r s Q  => o_icmp_lt (by decide +kernel : pcode 123 2 = some (49, 10, 0, 0, 8)),
  fun l0 l1 l2 nx h r s Q  => o_iload_n (by decide +kernel : pcode 123 5 = some (6, 0, 0, 0, 0)) rfl,
  fun l0 l1 l2 x0 nx h r s Q  => o_iload_n (by decide +kernel : pcode 123 6 = some (6, 2, 0, 0, 0)) rfl,
  fun l0 l1 l2 x0 x1 nx h r s Q  => o_icmp_le (by decide +kernel : pcode 123 7 = some (52, 18, 0, 0, 11)),
  fun l0 l1 l2 nx h r s Q  => o_throw (by decide +kernel : pcode 123 10 = some (83, 0, 113, 115, 0)) (Nat.le_of_ble_eq_true rfl) (by decide),
  fun l0 l1 l2 nx h r s Q  => o_vret (by decide +kernel : pcode 123 18 = some (90, 0, 0, 0, 0))⟩
set_option maxHeartbeats 4000000 in
set_option maxRecDepth 10000 in
theorem st_X7_checkPossible :
  (∀ (l0 : Int) (nx : Nat) (h r : PF) (s : Int → Int) (Q : PO → PY → Nat → PC → Prop), (Wp 124 0 [some (pI l0)] [] LY nx (h, r, s) Q ↔ Wp 124 1 [some (pI l0)] [pI l0] LY nx (h, r, s) Q)) ∧
  (∀ (l0 : Int) (x0 : Int) (nx : Nat) (h r : PF) (s : Int → Int) (Q : PO → PY → Nat → PC → Prop), (Wp 124 1 [some (pI l0)] [pI x0] LY nx (h, r, s) Q ↔ (if x0 ≠ 0 then Wp 124 12 [some (pI l0)] [] LY nx (h, r, s) Q else Wp 124 4 [some (pI l0)] [] LY nx (h, r, s) Q))) ∧
  (∀ (l0 : Int) (nx : Nat) (h r : PF) (s : Int → Int) (Q : PO → PY → Nat → PC → Prop), (Wp 124 4 [some (pI l0)] [] LY nx (h, r, s) Q ↔ Q (Sum.inr 2) LY (nx + 1) (h, r, s))) ∧
  (∀ (l0 : Int) (nx : Nat) (h r : PF) (s : Int → Int) (Q : PO → PY → Nat → PC → Prop), (Wp 124 12 [some (pI l0)] [] LY nx (h, r, s) Q ↔ Q (Sum.inl none) LY nx (h, r, s))) :=
  ⟨fun l0 nx h r s Q  => o_iload_n (by decide +kernel : pcode 124 0 = some (6, 0, 0, 0, 0)) rfl,
  fun l0 x0 nx h r s Q  => o_if_ne (by decide +kernel : pcode 124 1 = some (42, 12, 0, 0, 11)),
  fun l0 nx h r s Q  => o_throw (by decide +kernel : pcode 124 4 = some (83, 2, 285, 287, 0)) (Nat.le_of_ble_eq_true rfl) (by decide),
  fun l0 nx h r s Q  => o_vret (by decide +kernel : pcode 124 12 = some (90, 0, 0, 0, 0))⟩
