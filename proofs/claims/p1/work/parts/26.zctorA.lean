def LYb : PY := LY.dropLast
set_option maxHeartbeats 4000000 in
set_option maxRecDepth 10000 in
theorem sb_J7_fill_53178 :
  (∀ (l0 : Int) (l1 : Int) (lay : PY) (nx : Nat) (h r : PF) (s : Int → Int) (Q : PO → PY → Nat → PC → Prop), (Wp 229 0 [some (pR l0), some (pI l1), none, none] [] lay nx (h, r, s) Q ↔ Wp 229 1 [some (pR l0), some (pI l1), none, none] [pI 0] lay nx (h, r, s) Q)) ∧
  (∀ (l0 : Int) (l1 : Int) (x0 : Int) (lay : PY) (nx : Nat) (h r : PF) (s : Int → Int) (Q : PO → PY → Nat → PC → Prop), (Wp 229 1 [some (pR l0), some (pI l1), none, none] [pI x0] lay nx (h, r, s) Q ↔ Wp 229 2 [some (pR l0), some (pI l1), some (pI x0), none] [] lay nx (h, r, s) Q)) ∧
  (∀ (l0 : Int) (l1 : Int) (l2 : Int) (lay : PY) (nx : Nat) (h r : PF) (s : Int → Int) (Q : PO → PY → Nat → PC → Prop), (Wp 229 2 [some (pR l0), some (pI l1), some (pI l2), none] [] lay nx (h, r, s) Q ↔ Wp 229 3 [some (pR l0), some (pI l1), some (pI l2), none] [pR l0] lay nx (h, r, s) Q)) ∧
  (∀ (l0 : Int) (l1 : Int) (l2 : Int) (x0 : Int) (n9 : Nat) (lay : PY) (nx : Nat) (h r : PF) (s : Int → Int) (Q : PO → PY → Nat → PC → Prop), 0 < x0 → kd lay x0 = (1, n9) → (n9 : Int) < 2147483648 → (Wp 229 3 [some (pR l0), some (pI l1), some (pI l2), none] [pR x0] lay nx (h, r, s) Q ↔ Wp 229 4 [some (pR l0), some (pI l1), some (pI l2), none] [pI n9] lay nx (h, r, s) Q)) ∧
  (∀ (l0 : Int) (l1 : Int) (l2 : Int) (x0 : Int) (lay : PY) (nx : Nat) (h r : PF) (s : Int → Int) (Q : PO → PY → Nat → PC → Prop), (Wp 229 4 [some (pR l0), some (pI l1), some (pI l2), none] [pI x0] lay nx (h, r, s) Q ↔ Wp 229 5 [some (pR l0), some (pI l1), some (pI l2), some (pI x0)] [] lay nx (h, r, s) Q)) ∧
  (∀ (l0 : Int) (l1 : Int) (l2 : Int) (l3 : Int) (x0 : Int) (lay : PY) (nx : Nat) (h r : PF) (s : Int → Int) (Q : PO → PY → Nat → PC → Prop), (Wp 229 6 [some (pR l0), some (pI l1), some (pI l2), some (pI l3)] [pI x0] lay nx (h, r, s) Q ↔ Wp 229 7 [some (pR l0), some (pI l1), some (pI l2), some (pI l3)] [pI l3, pI x0] lay nx (h, r, s) Q)) ∧
  (∀ (l0 : Int) (l1 : Int) (l2 : Int) (l3 : Int) (x0 : Int) (x1 : Int) (lay : PY) (nx : Nat) (h r : PF) (s : Int → Int) (Q : PO → PY → Nat → PC → Prop), (Wp 229 7 [some (pR l0), some (pI l1), some (pI l2), some (pI l3)] [pI x1, pI x0] lay nx (h, r, s) Q ↔ (if x1 ≤ x0 then Wp 229 20 [some (pR l0), some (pI l1), some (pI l2), some (pI l3)] [] lay nx (h, r, s) Q else Wp 229 10 [some (pR l0), some (pI l1), some (pI l2), some (pI l3)] [] lay nx (h, r, s) Q))) ∧
  (∀ (l0 : Int) (l1 : Int) (l2 : Int) (l3 : Int) (lay : PY) (nx : Nat) (h r : PF) (s : Int → Int) (Q : PO → PY → Nat → PC → Prop), (Wp 229 10 [some (pR l0), some (pI l1), some (pI l2), some (pI l3)] [] lay nx (h, r, s) Q ↔ Wp 229 11 [some (pR l0), some (pI l1), some (pI l2), some (pI l3)] [pR l0] lay nx (h, r, s) Q)) ∧
  (∀ (l0 : Int) (l1 : Int) (l2 : Int) (l3 : Int) (x0 : Int) (lay : PY) (nx : Nat) (h r : PF) (s : Int → Int) (Q : PO → PY → Nat → PC → Prop), (Wp 229 11 [some (pR l0), some (pI l1), some (pI l2), some (pI l3)] [pR x0] lay nx (h, r, s) Q ↔ Wp 229 12 [some (pR l0), some (pI l1), some (pI l2), some (pI l3)] [pI l2, pR x0] lay nx (h, r, s) Q)) ∧
  (∀ (l0 : Int) (l1 : Int) (l2 : Int) (l3 : Int) (x0 : Int) (x1 : Int) (lay : PY) (nx : Nat) (h r : PF) (s : Int → Int) (Q : PO → PY → Nat → PC → Prop), (Wp 229 12 [some (pR l0), some (pI l1), some (pI l2), some (pI l3)] [pI x1, pR x0] lay nx (h, r, s) Q ↔ Wp 229 13 [some (pR l0), some (pI l1), some (pI l2), some (pI l3)] [pI l1, pI x1, pR x0] lay nx (h, r, s) Q)) ∧
  (∀ (l0 : Int) (l1 : Int) (l2 : Int) (l3 : Int) (x0 : Int) (x1 : Int) (x2 : Int) (n9 : Nat) (lay : PY) (nx : Nat) (h r : PF) (s : Int → Int) (Q : PO → PY → Nat → PC → Prop), 0 < x0 → kd lay x0 = (1, n9) → 0 ≤ x1 → x1 < n9 → (Wp 229 13 [some (pR l0), some (pI l1), some (pI l2), some (pI l3)] [pI x2, pI x1, pR x0] lay nx (h, r, s) Q ↔ Wp 229 14 [some (pR l0), some (pI l1), some (pI l2), some (pI l3)] [] lay nx (fup h x0 x1 x2, r, s) Q)) ∧
  (∀ (l0 : Int) (l1 : Int) (l2 : Int) (l3 : Int) (lay : PY) (nx : Nat) (h r : PF) (s : Int → Int) (Q : PO → PY → Nat → PC → Prop), (Wp 229 14 [some (pR l0), some (pI l1), some (pI l2), some (pI l3)] [] lay nx (h, r, s) Q ↔ Wp 229 17 [some (pR l0), some (pI l1), some (pI (w32 (l2 + 1))), some (pI l3)] [] lay nx (h, r, s) Q)) ∧
  (∀ (l0 : Int) (l1 : Int) (l2 : Int) (l3 : Int) (lay : PY) (nx : Nat) (h r : PF) (s : Int → Int) (Q : PO → PY → Nat → PC → Prop), (Wp 229 17 [some (pR l0), some (pI l1), some (pI l2), some (pI l3)] [] lay nx (h, r, s) Q ↔ Wp 229 5 [some (pR l0), some (pI l1), some (pI l2), some (pI l3)] [] lay nx (h, r, s) Q)) ∧
  (∀ (l0 : Int) (l1 : Int) (l2 : Int) (l3 : Int) (lay : PY) (nx : Nat) (h r : PF) (s : Int → Int) (Q : PO → PY → Nat → PC → Prop), (Wp 229 20 [some (pR l0), some (pI l1), some (pI l2), some (pI l3)] [] lay nx (h, r, s) Q ↔ Q (Sum.inl none) lay nx (h, r, s))) :=
  ⟨fun l0 l1 lay nx h r s Q  => o_iconst (by decide +kernel : pcode 229 0 = some (1, 0, 0, 0, 0)),
  fun l0 l1 x0 lay nx h r s Q  => o_istore_n (by decide +kernel : pcode 229 1 = some (12, 2, 0, 0, 0)) rfl,
  fun l0 l1 l2 lay nx h r s Q  => o_aload_n (by decide +kernel : pcode 229 2 = some (10, 0, 0, 0, 0)) rfl,
  fun l0 l1 l2 x0 n9 lay nx h r s Q h0 hk hn => o_alen (h := (h, r, s)) (k := 1) (n := n9) (by decide +kernel : pcode 229 3 = some (73, 0, 0, 0, 0)) h0 hk (Or.inl rfl) hn,
  fun l0 l1 l2 x0 lay nx h r s Q  => o_istore_n (by decide +kernel : pcode 229 4 = some (12, 3, 0, 0, 0)) rfl,
  fun l0 l1 l2 l3 x0 lay nx h r s Q  => o_iload_n (by decide +kernel : pcode 229 6 = some (6, 3, 0, 0, 0)) rfl,
  fun l0 l1 l2 l3 x0 x1 lay nx h r s Q  => o_icmp_ge (by decide +kernel : pcode 229 7 = some (50, 20, 0, 0, 13)),
  fun l0 l1 l2 l3 lay nx h r s Q  => o_aload_n (by decide +kernel : pcode 229 10 = some (10, 0, 0, 0, 0)) rfl,
  fun l0 l1 l2 l3 x0 lay nx h r s Q  => o_iload_n (by decide +kernel : pcode 229 11 = some (6, 2, 0, 0, 0)) rfl,
  fun l0 l1 l2 l3 x0 x1 lay nx h r s Q  => o_iload_n (by decide +kernel : pcode 229 12 = some (6, 1, 0, 0, 0)) rfl,
  fun l0 l1 l2 l3 x0 x1 x2 n9 lay nx h r s Q h0 hk hi hn => o_iast (h := (h, r, s)) (n := n9) (by decide +kernel : pcode 229 13 = some (64, 0, 0, 0, 0)) h0 hk hi hn,
  fun l0 l1 l2 l3 lay nx h r s Q  => o_iinc (by decide +kernel : pcode 229 14 = some (18, 2, 0, 0, 1)) rfl rfl,
  fun l0 l1 l2 l3 lay nx h r s Q  => o_goto (by decide +kernel : pcode 229 17 = some (53, 5, 0, 0, -12)),
  fun l0 l1 l2 l3 lay nx h r s Q  => o_vret (by decide +kernel : pcode 229 20 = some (90, 0, 0, 0, 0))⟩
theorem sg_J7_fill_53178_5 {l0 : Int} {l1 : Int} {l2 : Int} {l3 : Int} {lay : PY} {nx : Nat} {h r : PF} {s : Int → Int} {Q : PO → PY → Nat → PC → Prop} : (Wp 229 5 [some (pR l0), some (pI l1), some (pI l2), some (pI l3)] [] lay nx (h, r, s) Q ↔ Wp 229 6 [some (pR l0), some (pI l1), some (pI l2), some (pI l3)] [pI l2] lay nx (h, r, s) Q) := o_iload_n (by decide +kernel : pcode 229 5 = some (6, 2, 0, 0, 0)) rfl
set_option maxHeartbeats 4000000 in
set_option maxRecDepth 10000 in
theorem sb_X8_clearsRead :
  (∀  (nx : Nat) (h r : PF) (s : Int → Int) (Q : PO → PY → Nat → PC → Prop), (Wp 149 0 [some (pR 178), none] [] LYb nx (h, r, s) Q ↔ Wp 149 1 [some (pR 178), none] [pI 0] LYb nx (h, r, s) Q)) ∧
  (∀ (x0 : Int) (nx : Nat) (h r : PF) (s : Int → Int) (Q : PO → PY → Nat → PC → Prop), (Wp 149 1 [some (pR 178), none] [pI x0] LYb nx (h, r, s) Q ↔ Wp 149 2 [some (pR 178), some (pI x0)] [] LYb nx (h, r, s) Q)) ∧
  (∀ (l1 : Int) (x0 : Int) (nx : Nat) (h r : PF) (s : Int → Int) (Q : PO → PY → Nat → PC → Prop), (Wp 149 3 [some (pR 178), some (pI l1)] [pI x0] LYb nx (h, r, s) Q ↔ Wp 149 6 [some (pR 178), some (pI l1)] [pI 164, pI x0] LYb nx (h, r, s) Q)) ∧
  (∀ (l1 : Int) (x0 : Int) (x1 : Int) (nx : Nat) (h r : PF) (s : Int → Int) (Q : PO → PY → Nat → PC → Prop), (Wp 149 6 [some (pR 178), some (pI l1)] [pI x1, pI x0] LYb nx (h, r, s) Q ↔ (if x1 ≤ x0 then Wp 149 22 [some (pR 178), some (pI l1)] [] LYb nx (h, r, s) Q else Wp 149 9 [some (pR 178), some (pI l1)] [] LYb nx (h, r, s) Q))) ∧
  (∀ (l1 : Int) (nx : Nat) (h r : PF) (s : Int → Int) (Q : PO → PY → Nat → PC → Prop), (Wp 149 9 [some (pR 178), some (pI l1)] [] LYb nx (h, r, s) Q ↔ Wp 149 10 [some (pR 178), some (pI l1)] [pR 178] LYb nx (h, r, s) Q)) ∧
  (∀ (l1 : Int) (nx : Nat) (h r : PF) (s : Int → Int) (Q : PO → PY → Nat → PC → Prop), WFr r → (Wp 149 10 [some (pR 178), some (pI l1)] [pR 178] LYb nx (h, r, s) Q ↔ Wp 149 13 [some (pR 178), some (pI l1)] [pR 182] LYb nx (h, r, s) Q)) ∧
  (∀ (l1 : Int) (nx : Nat) (h r : PF) (s : Int → Int) (Q : PO → PY → Nat → PC → Prop), (Wp 149 13 [some (pR 178), some (pI l1)] [pR 182] LYb nx (h, r, s) Q ↔ Wp 149 14 [some (pR 178), some (pI l1)] [pI l1, pR 182] LYb nx (h, r, s) Q)) ∧
  (∀ (l1 : Int) (x1 : Int) (nx : Nat) (h r : PF) (s : Int → Int) (Q : PO → PY → Nat → PC → Prop), (Wp 149 14 [some (pR 178), some (pI l1)] [pI x1, pR 182] LYb nx (h, r, s) Q ↔ Wp 149 15 [some (pR 178), some (pI l1)] [pI 0, pI x1, pR 182] LYb nx (h, r, s) Q)) ∧
  (∀ (l1 : Int) (x1 : Int) (x2 : Int) (nx : Nat) (h r : PF) (s : Int → Int) (Q : PO → PY → Nat → PC → Prop), 0 ≤ x1 → x1 < 164 → (Wp 149 15 [some (pR 178), some (pI l1)] [pI x2, pI x1, pR 182] LYb nx (h, r, s) Q ↔ Wp 149 16 [some (pR 178), some (pI l1)] [] LYb nx (fup h 182 x1 x2, r, s) Q)) ∧
  (∀ (l1 : Int) (nx : Nat) (h r : PF) (s : Int → Int) (Q : PO → PY → Nat → PC → Prop), (Wp 149 16 [some (pR 178), some (pI l1)] [] LYb nx (h, r, s) Q ↔ Wp 149 19 [some (pR 178), some (pI (w32 (l1 + 1)))] [] LYb nx (h, r, s) Q)) ∧
  (∀ (l1 : Int) (nx : Nat) (h r : PF) (s : Int → Int) (Q : PO → PY → Nat → PC → Prop), (Wp 149 19 [some (pR 178), some (pI l1)] [] LYb nx (h, r, s) Q ↔ Wp 149 2 [some (pR 178), some (pI l1)] [] LYb nx (h, r, s) Q)) ∧
  (∀ (l1 : Int) (nx : Nat) (h r : PF) (s : Int → Int) (Q : PO → PY → Nat → PC → Prop), (Wp 149 22 [some (pR 178), some (pI l1)] [] LYb nx (h, r, s) Q ↔ Wp 149 23 [some (pR 178), some (pI l1)] [pR 178] LYb nx (h, r, s) Q)) ∧
  (∀ (l1 : Int) (nx : Nat) (h r : PF) (s : Int → Int) (Q : PO → PY → Nat → PC → Prop), WFr r → (Wp 149 23 [some (pR 178), some (pI l1)] [pR 178] LYb nx (h, r, s) Q ↔ Wp 149 26 [some (pR 178), some (pI l1)] [pR 182] LYb nx (h, r, s) Q)) ∧
  (∀ (l1 : Int) (nx : Nat) (h r : PF) (s : Int → Int) (Q : PO → PY → Nat → PC → Prop), (Wp 149 26 [some (pR 178), some (pI l1)] [pR 182] LYb nx (h, r, s) Q ↔ Wp 149 27 [some (pR 178), some (pI l1)] [pI 2, pR 182] LYb nx (h, r, s) Q)) ∧
  (∀ (l1 : Int) (x1 : Int) (nx : Nat) (h r : PF) (s : Int → Int) (Q : PO → PY → Nat → PC → Prop), (Wp 149 27 [some (pR 178), some (pI l1)] [pI x1, pR 182] LYb nx (h, r, s) Q ↔ Wp 149 28 [some (pR 178), some (pI l1)] [pI 4, pI x1, pR 182] LYb nx (h, r, s) Q)) ∧
  (∀ (l1 : Int) (x1 : Int) (x2 : Int) (nx : Nat) (h r : PF) (s : Int → Int) (Q : PO → PY → Nat → PC → Prop), 0 ≤ x1 → x1 < 164 → (Wp 149 28 [some (pR 178), some (pI l1)] [pI x2, pI x1, pR 182] LYb nx (h, r, s) Q ↔ Wp 149 29 [some (pR 178), some (pI l1)] [] LYb nx (fup h 182 x1 x2, r, s) Q)) ∧
  (∀ (l1 : Int) (nx : Nat) (h r : PF) (s : Int → Int) (Q : PO → PY → Nat → PC → Prop), (Wp 149 29 [some (pR 178), some (pI l1)] [] LYb nx (h, r, s) Q ↔ Wp 149 30 [some (pR 178), some (pI l1)] [pR 178] LYb nx (h, r, s) Q)) ∧
  (∀ (l1 : Int) (nx : Nat) (h r : PF) (s : Int → Int) (Q : PO → PY → Nat → PC → Prop), WFr r → (Wp 149 30 [some (pR 178), some (pI l1)] [pR 178] LYb nx (h, r, s) Q ↔ Wp 149 33 [some (pR 178), some (pI l1)] [pR 182] LYb nx (h, r, s) Q)) ∧
  (∀ (l1 : Int) (nx : Nat) (h r : PF) (s : Int → Int) (Q : PO → PY → Nat → PC → Prop), (Wp 149 33 [some (pR 178), some (pI l1)] [pR 182] LYb nx (h, r, s) Q ↔ Wp 149 34 [some (pR 178), some (pI l1)] [pI 3, pR 182] LYb nx (h, r, s) Q)) ∧
  (∀ (l1 : Int) (x1 : Int) (nx : Nat) (h r : PF) (s : Int → Int) (Q : PO → PY → Nat → PC → Prop), (Wp 149 34 [some (pR 178), some (pI l1)] [pI x1, pR 182] LYb nx (h, r, s) Q ↔ Wp 149 35 [some (pR 178), some (pI l1)] [pI 1, pI x1, pR 182] LYb nx (h, r, s) Q)) ∧
  (∀ (l1 : Int) (x1 : Int) (x2 : Int) (nx : Nat) (h r : PF) (s : Int → Int) (Q : PO → PY → Nat → PC → Prop), 0 ≤ x1 → x1 < 164 → (Wp 149 35 [some (pR 178), some (pI l1)] [pI x2, pI x1, pR 182] LYb nx (h, r, s) Q ↔ Wp 149 36 [some (pR 178), some (pI l1)] [] LYb nx (fup h 182 x1 x2, r, s) Q)) ∧
  (∀ (l1 : Int) (nx : Nat) (h r : PF) (s : Int → Int) (Q : PO → PY → Nat → PC → Prop), (Wp 149 36 [some (pR 178), some (pI l1)] [] LYb nx (h, r, s) Q ↔ Wp 149 37 [some (pR 178), some (pI l1)] [pR 178] LYb nx (h, r, s) Q)) ∧
  (∀ (l1 : Int) (nx : Nat) (h r : PF) (s : Int → Int) (Q : PO → PY → Nat → PC → Prop), (Wp 149 37 [some (pR 178), some (pI l1)] [pR 178] LYb nx (h, r, s) Q ↔ Wp 149 38 [some (pR 178), some (pI l1)] [pI 0, pR 178] LYb nx (h, r, s) Q)) ∧
  (∀ (l1 : Int) (x1 : Int) (nx : Nat) (h r : PF) (s : Int → Int) (Q : PO → PY → Nat → PC → Prop), x1 = 0 ∨ x1 = 1 → (Wp 149 38 [some (pR 178), some (pI l1)] [pI x1, pR 178] LYb nx (h, r, s) Q ↔ Wp 149 41 [some (pR 178), some (pI l1)] [] LYb nx (fup h 178 14 x1, r, s) Q)) ∧
  (∀ (l1 : Int) (nx : Nat) (h r : PF) (s : Int → Int) (Q : PO → PY → Nat → PC → Prop), (Wp 149 41 [some (pR 178), some (pI l1)] [] LYb nx (h, r, s) Q ↔ Q (Sum.inl none) LYb nx (h, r, s))) :=
  ⟨fun  nx h r s Q  => o_iconst (by decide +kernel : pcode 149 0 = some (1, 0, 0, 0, 0)),
  fun x0 nx h r s Q  => o_istore_n (by decide +kernel : pcode 149 1 = some (12, 1, 0, 0, 0)) rfl,
  fun l1 x0 nx h r s Q  => o_sipush (by decide +kernel : pcode 149 3 = some (3, 0, 0, 0, 164)),
  fun l1 x0 x1 nx h r s Q  => o_icmp_ge (by decide +kernel : pcode 149 6 = some (50, 22, 0, 0, 16)),
  fun l1 nx h r s Q  => o_aload_n (by decide +kernel : pcode 149 9 = some (10, 0, 0, 0, 0)) rfl,
  fun l1 nx h r s Q hw => o_getR (h := (h, r, s)) (by decide +kernel : pcode 149 10 = some (57, 1232, 8, 15, 24)) (by decide) (by decide +kernel) (hw _ (List.mem_of_getElem? (i := 175) rfl)) (by decide),
  fun l1 nx h r s Q  => o_iload_n (by decide +kernel : pcode 149 13 = some (6, 1, 0, 0, 0)) rfl,
  fun l1 x1 nx h r s Q  => o_iconst (by decide +kernel : pcode 149 14 = some (1, 0, 0, 0, 0)),
  fun l1 x1 x2 nx h r s Q hi hn => o_iast (h := (h, r, s)) (n := 164) (by decide +kernel : pcode 149 15 = some (64, 0, 0, 0, 0)) (by decide) (by decide +kernel) hi hn,
  fun l1 nx h r s Q  => o_iinc (by decide +kernel : pcode 149 16 = some (18, 1, 0, 0, 1)) rfl rfl,
  fun l1 nx h r s Q  => o_goto (by decide +kernel : pcode 149 19 = some (53, 2, 0, 0, -17)),
  fun l1 nx h r s Q  => o_aload_n (by decide +kernel : pcode 149 22 = some (10, 0, 0, 0, 0)) rfl,
  fun l1 nx h r s Q hw => o_getR (h := (h, r, s)) (by decide +kernel : pcode 149 23 = some (57, 1232, 8, 15, 24)) (by decide) (by decide +kernel) (hw _ (List.mem_of_getElem? (i := 175) rfl)) (by decide),
  fun l1 nx h r s Q  => o_iconst (by decide +kernel : pcode 149 26 = some (1, 0, 0, 0, 2)),
  fun l1 x1 nx h r s Q  => o_iconst (by decide +kernel : pcode 149 27 = some (1, 0, 0, 0, 4)),
  fun l1 x1 x2 nx h r s Q hi hn => o_iast (h := (h, r, s)) (n := 164) (by decide +kernel : pcode 149 28 = some (64, 0, 0, 0, 0)) (by decide) (by decide +kernel) hi hn,
  fun l1 nx h r s Q  => o_aload_n (by decide +kernel : pcode 149 29 = some (10, 0, 0, 0, 0)) rfl,
  fun l1 nx h r s Q hw => o_getR (h := (h, r, s)) (by decide +kernel : pcode 149 30 = some (57, 1232, 8, 15, 24)) (by decide) (by decide +kernel) (hw _ (List.mem_of_getElem? (i := 175) rfl)) (by decide),
  fun l1 nx h r s Q  => o_iconst (by decide +kernel : pcode 149 33 = some (1, 0, 0, 0, 3)),
  fun l1 x1 nx h r s Q  => o_iconst (by decide +kernel : pcode 149 34 = some (1, 0, 0, 0, 1)),
  fun l1 x1 x2 nx h r s Q hi hn => o_iast (h := (h, r, s)) (n := 164) (by decide +kernel : pcode 149 35 = some (64, 0, 0, 0, 0)) (by decide) (by decide +kernel) hi hn,
  fun l1 nx h r s Q  => o_aload_n (by decide +kernel : pcode 149 36 = some (10, 0, 0, 0, 0)) rfl,
  fun l1 nx h r s Q  => o_iconst (by decide +kernel : pcode 149 37 = some (1, 0, 0, 0, 0)),
  fun l1 x1 nx h r s Q hz => o_putZ (by decide +kernel : pcode 149 38 = some (59, 1231, 8, 14, 164)) (by decide) (by decide +kernel) hz,
  fun l1 nx h r s Q  => o_vret (by decide +kernel : pcode 149 41 = some (90, 0, 0, 0, 0))⟩
theorem sg_X8_clearsRead_2 {l1 : Int} {nx : Nat} {h r : PF} {s : Int → Int} {Q : PO → PY → Nat → PC → Prop} : (Wp 149 2 [some (pR 178), some (pI l1)] [] LYb nx (h, r, s) Q ↔ Wp 149 3 [some (pR 178), some (pI l1)] [pI l1] LYb nx (h, r, s) Q) := o_iload_n (by decide +kernel : pcode 149 2 = some (6, 1, 0, 0, 0)) rfl
set_option maxHeartbeats 4000000 in
set_option maxRecDepth 10000 in
theorem sb_X8_begins_0 :
  (∀  (nx : Nat) (h r : PF) (s : Int → Int) (Q : PO → PY → Nat → PC → Prop), (Wp 151 0 [some (pR 178), none] [] LYb nx (h, r, s) Q ↔ Wp 151 1 [some (pR 178), none] [pI 0] LYb nx (h, r, s) Q)) ∧
  (∀ (x0 : Int) (nx : Nat) (h r : PF) (s : Int → Int) (Q : PO → PY → Nat → PC → Prop), (Wp 151 1 [some (pR 178), none] [pI x0] LYb nx (h, r, s) Q ↔ Wp 151 2 [some (pR 178), some (pI x0)] [] LYb nx (h, r, s) Q)) ∧
  (∀ (l1 : Int) (x0 : Int) (nx : Nat) (h r : PF) (s : Int → Int) (Q : PO → PY → Nat → PC → Prop), (Wp 151 3 [some (pR 178), some (pI l1)] [pI x0] LYb nx (h, r, s) Q ↔ Wp 151 6 [some (pR 178), some (pI l1)] [pI 164, pI x0] LYb nx (h, r, s) Q)) ∧
  (∀ (l1 : Int) (x0 : Int) (x1 : Int) (nx : Nat) (h r : PF) (s : Int → Int) (Q : PO → PY → Nat → PC → Prop), (Wp 151 6 [some (pR 178), some (pI l1)] [pI x1, pI x0] LYb nx (h, r, s) Q ↔ (if x1 ≤ x0 then Wp 151 27 [some (pR 178), some (pI l1)] [] LYb nx (h, r, s) Q else Wp 151 9 [some (pR 178), some (pI l1)] [] LYb nx (h, r, s) Q))) ∧
  (∀ (l1 : Int) (nx : Nat) (h r : PF) (s : Int → Int) (Q : PO → PY → Nat → PC → Prop), (Wp 151 9 [some (pR 178), some (pI l1)] [] LYb nx (h, r, s) Q ↔ Wp 151 10 [some (pR 178), some (pI l1)] [pR 178] LYb nx (h, r, s) Q)) ∧
  (∀ (l1 : Int) (nx : Nat) (h r : PF) (s : Int → Int) (Q : PO → PY → Nat → PC → Prop), WFr r → (Wp 151 10 [some (pR 178), some (pI l1)] [pR 178] LYb nx (h, r, s) Q ↔ Wp 151 13 [some (pR 178), some (pI l1)] [pR 179] LYb nx (h, r, s) Q)) ∧
  (∀ (l1 : Int) (nx : Nat) (h r : PF) (s : Int → Int) (Q : PO → PY → Nat → PC → Prop), (Wp 151 13 [some (pR 178), some (pI l1)] [pR 179] LYb nx (h, r, s) Q ↔ Wp 151 14 [some (pR 178), some (pI l1)] [pI l1, pR 179] LYb nx (h, r, s) Q)) ∧
  (∀ (l1 : Int) (x1 : Int) (nx : Nat) (h r : PF) (s : Int → Int) (Q : PO → PY → Nat → PC → Prop), (Wp 151 14 [some (pR 178), some (pI l1)] [pI x1, pR 179] LYb nx (h, r, s) Q ↔ Wp 151 15 [some (pR 178), some (pI l1)] [pR 178, pI x1, pR 179] LYb nx (h, r, s) Q)) ∧
  (∀ (l1 : Int) (x1 : Int) (nx : Nat) (h r : PF) (s : Int → Int) (Q : PO → PY → Nat → PC → Prop), WFr r → (Wp 151 15 [some (pR 178), some (pI l1)] [pR 178, pI x1, pR 179] LYb nx (h, r, s) Q ↔ Wp 151 18 [some (pR 178), some (pI l1)] [pR 182, pI x1, pR 179] LYb nx (h, r, s) Q)) ∧
  (∀ (l1 : Int) (x1 : Int) (nx : Nat) (h r : PF) (s : Int → Int) (Q : PO → PY → Nat → PC → Prop), (Wp 151 18 [some (pR 178), some (pI l1)] [pR 182, pI x1, pR 179] LYb nx (h, r, s) Q ↔ Wp 151 19 [some (pR 178), some (pI l1)] [pI l1, pR 182, pI x1, pR 179] LYb nx (h, r, s) Q)) ∧
  (∀ (l1 : Int) (x1 : Int) (x3 : Int) (nx : Nat) (h r : PF) (s : Int → Int) (Q : PO → PY → Nat → PC → Prop), 0 ≤ x3 → x3 < 164 → (Wp 151 19 [some (pR 178), some (pI l1)] [pI x3, pR 182, pI x1, pR 179] LYb nx (h, r, s) Q ↔ Wp 151 20 [some (pR 178), some (pI l1)] [pI (h 182 x3), pI x1, pR 179] LYb nx (h, r, s) Q)) ∧
  (∀ (l1 : Int) (x1 : Int) (x2 : Int) (nx : Nat) (h r : PF) (s : Int → Int) (Q : PO → PY → Nat → PC → Prop), 0 ≤ x1 → x1 < 164 → (Wp 151 20 [some (pR 178), some (pI l1)] [pI x2, pI x1, pR 179] LYb nx (h, r, s) Q ↔ Wp 151 21 [some (pR 178), some (pI l1)] [] LYb nx (fup h 179 x1 x2, r, s) Q)) ∧
  (∀ (l1 : Int) (nx : Nat) (h r : PF) (s : Int → Int) (Q : PO → PY → Nat → PC → Prop), (Wp 151 21 [some (pR 178), some (pI l1)] [] LYb nx (h, r, s) Q ↔ Wp 151 24 [some (pR 178), some (pI (w32 (l1 + 1)))] [] LYb nx (h, r, s) Q)) ∧
  (∀ (l1 : Int) (nx : Nat) (h r : PF) (s : Int → Int) (Q : PO → PY → Nat → PC → Prop), (Wp 151 24 [some (pR 178), some (pI l1)] [] LYb nx (h, r, s) Q ↔ Wp 151 2 [some (pR 178), some (pI l1)] [] LYb nx (h, r, s) Q)) ∧
  (∀ (l1 : Int) (nx : Nat) (h r : PF) (s : Int → Int) (Q : PO → PY → Nat → PC → Prop), (Wp 151 27 [some (pR 178), some (pI l1)] [] LYb nx (h, r, s) Q ↔ Wp 151 28 [some (pR 178), some (pI l1)] [pI 0] LYb nx (h, r, s) Q)) ∧
  (∀ (l1 : Int) (x0 : Int) (nx : Nat) (h r : PF) (s : Int → Int) (Q : PO → PY → Nat → PC → Prop), (Wp 151 28 [some (pR 178), some (pI l1)] [pI x0] LYb nx (h, r, s) Q ↔ Wp 151 29 [some (pR 178), some (pI x0)] [] LYb nx (h, r, s) Q)) ∧
  (∀ (l1 : Int) (x0 : Int) (nx : Nat) (h r : PF) (s : Int → Int) (Q : PO → PY → Nat → PC → Prop), (Wp 151 30 [some (pR 178), some (pI l1)] [pI x0] LYb nx (h, r, s) Q ↔ Wp 151 33 [some (pR 178), some (pI l1)] [pI 195, pI x0] LYb nx (h, r, s) Q)) ∧
  (∀ (l1 : Int) (x0 : Int) (x1 : Int) (nx : Nat) (h r : PF) (s : Int → Int) (Q : PO → PY → Nat → PC → Prop), (Wp 151 33 [some (pR 178), some (pI l1)] [pI x1, pI x0] LYb nx (h, r, s) Q ↔ (if x1 ≤ x0 then Wp 151 49 [some (pR 178), some (pI l1)] [] LYb nx (h, r, s) Q else Wp 151 36 [some (pR 178), some (pI l1)] [] LYb nx (h, r, s) Q))) ∧
  (∀ (l1 : Int) (nx : Nat) (h r : PF) (s : Int → Int) (Q : PO → PY → Nat → PC → Prop), (Wp 151 36 [some (pR 178), some (pI l1)] [] LYb nx (h, r, s) Q ↔ Wp 151 37 [some (pR 178), some (pI l1)] [pR 178] LYb nx (h, r, s) Q)) ∧
  (∀ (l1 : Int) (nx : Nat) (h r : PF) (s : Int → Int) (Q : PO → PY → Nat → PC → Prop), WFr r → (Wp 151 37 [some (pR 178), some (pI l1)] [pR 178] LYb nx (h, r, s) Q ↔ Wp 151 40 [some (pR 178), some (pI l1)] [pR 180] LYb nx (h, r, s) Q)) ∧
  (∀ (l1 : Int) (nx : Nat) (h r : PF) (s : Int → Int) (Q : PO → PY → Nat → PC → Prop), (Wp 151 40 [some (pR 178), some (pI l1)] [pR 180] LYb nx (h, r, s) Q ↔ Wp 151 41 [some (pR 178), some (pI l1)] [pI l1, pR 180] LYb nx (h, r, s) Q)) ∧
  (∀ (l1 : Int) (x1 : Int) (nx : Nat) (h r : PF) (s : Int → Int) (Q : PO → PY → Nat → PC → Prop), (Wp 151 41 [some (pR 178), some (pI l1)] [pI x1, pR 180] LYb nx (h, r, s) Q ↔ Wp 151 42 [some (pR 178), some (pI l1)] [pI 0, pI x1, pR 180] LYb nx (h, r, s) Q)) ∧
  (∀ (l1 : Int) (x1 : Int) (x2 : Int) (nx : Nat) (h r : PF) (s : Int → Int) (Q : PO → PY → Nat → PC → Prop), 0 ≤ x1 → x1 < 195 → (Wp 151 42 [some (pR 178), some (pI l1)] [pI x2, pI x1, pR 180] LYb nx (h, r, s) Q ↔ Wp 151 43 [some (pR 178), some (pI l1)] [] LYb nx (fup h 180 x1 x2, r, s) Q)) ∧
  (∀ (l1 : Int) (nx : Nat) (h r : PF) (s : Int → Int) (Q : PO → PY → Nat → PC → Prop), (Wp 151 43 [some (pR 178), some (pI l1)] [] LYb nx (h, r, s) Q ↔ Wp 151 46 [some (pR 178), some (pI (w32 (l1 + 1)))] [] LYb nx (h, r, s) Q)) ∧
  (∀ (l1 : Int) (nx : Nat) (h r : PF) (s : Int → Int) (Q : PO → PY → Nat → PC → Prop), (Wp 151 46 [some (pR 178), some (pI l1)] [] LYb nx (h, r, s) Q ↔ Wp 151 29 [some (pR 178), some (pI l1)] [] LYb nx (h, r, s) Q)) ∧
  (∀ (l1 : Int) (nx : Nat) (h r : PF) (s : Int → Int) (Q : PO → PY → Nat → PC → Prop), (Wp 151 49 [some (pR 178), some (pI l1)] [] LYb nx (h, r, s) Q ↔ Wp 151 50 [some (pR 178), some (pI l1)] [pI 0] LYb nx (h, r, s) Q)) ∧
  (∀ (l1 : Int) (x0 : Int) (nx : Nat) (h r : PF) (s : Int → Int) (Q : PO → PY → Nat → PC → Prop), (Wp 151 50 [some (pR 178), some (pI l1)] [pI x0] LYb nx (h, r, s) Q ↔ Wp 151 51 [some (pR 178), some (pI x0)] [] LYb nx (h, r, s) Q)) ∧
  (∀ (l1 : Int) (x0 : Int) (nx : Nat) (h r : PF) (s : Int → Int) (Q : PO → PY → Nat → PC → Prop), (Wp 151 52 [some (pR 178), some (pI l1)] [pI x0] LYb nx (h, r, s) Q ↔ Wp 151 53 [some (pR 178), some (pI l1)] [pR 178, pI x0] LYb nx (h, r, s) Q)) ∧
  (∀ (l1 : Int) (x0 : Int) (nx : Nat) (h r : PF) (s : Int → Int) (Q : PO → PY → Nat → PC → Prop), WFr r → (Wp 151 53 [some (pR 178), some (pI l1)] [pR 178, pI x0] LYb nx (h, r, s) Q ↔ Wp 151 56 [some (pR 178), some (pI l1)] [pR 179, pI x0] LYb nx (h, r, s) Q)) ∧
  (∀ (l1 : Int) (x0 : Int) (nx : Nat) (h r : PF) (s : Int → Int) (Q : PO → PY → Nat → PC → Prop), (Wp 151 56 [some (pR 178), some (pI l1)] [pR 179, pI x0] LYb nx (h, r, s) Q ↔ Wp 151 57 [some (pR 178), some (pI l1)] [pI 1, pR 179, pI x0] LYb nx (h, r, s) Q)) ∧
  (∀ (l1 : Int) (x0 : Int) (x2 : Int) (nx : Nat) (h r : PF) (s : Int → Int) (Q : PO → PY → Nat → PC → Prop), 0 ≤ x2 → x2 < 164 → (Wp 151 57 [some (pR 178), some (pI l1)] [pI x2, pR 179, pI x0] LYb nx (h, r, s) Q ↔ Wp 151 58 [some (pR 178), some (pI l1)] [pI (h 179 x2), pI x0] LYb nx (h, r, s) Q)) ∧
  (∀ (l1 : Int) (x0 : Int) (x1 : Int) (nx : Nat) (h r : PF) (s : Int → Int) (Q : PO → PY → Nat → PC → Prop), (Wp 151 58 [some (pR 178), some (pI l1)] [pI x1, pI x0] LYb nx (h, r, s) Q ↔ (if x1 ≤ x0 then Wp 151 96 [some (pR 178), some (pI l1)] [] LYb nx (h, r, s) Q else Wp 151 61 [some (pR 178), some (pI l1)] [] LYb nx (h, r, s) Q))) ∧
  (∀ (l1 : Int) (nx : Nat) (h r : PF) (s : Int → Int) (Q : PO → PY → Nat → PC → Prop), (Wp 151 61 [some (pR 178), some (pI l1)] [] LYb nx (h, r, s) Q ↔ Wp 151 62 [some (pR 178), some (pI l1)] [pR 178] LYb nx (h, r, s) Q)) ∧
  (∀ (l1 : Int) (nx : Nat) (h r : PF) (s : Int → Int) (Q : PO → PY → Nat → PC → Prop), (Wp 151 62 [some (pR 178), some (pI l1)] [pR 178] LYb nx (h, r, s) Q ↔ Wp 151 63 [some (pR 178), some (pI l1)] [pI l1, pR 178] LYb nx (h, r, s) Q)) ∧
  (∀ (l1 : Int) (x1 : Int) (nx : Nat) (h r : PF) (s : Int → Int) (Q : PO → PY → Nat → PC → Prop), (Wp 151 63 [some (pR 178), some (pI l1)] [pI x1, pR 178] LYb nx (h, r, s) Q ↔ Wp 151 64 [some (pR 178), some (pI l1)] [pI 1, pI x1, pR 178] LYb nx (h, r, s) Q)) ∧
  (∀ (l1 : Int) (x1 : Int) (x2 : Int) (nx : Nat) (h r : PF) (s : Int → Int) (Q : PO → PY → Nat → PC → Prop), (Wp 151 64 [some (pR 178), some (pI l1)] [pI x2, pI x1, pR 178] LYb nx (h, r, s) Q ↔ Wp 151 65 [some (pR 178), some (pI l1)] [pR 178, pI x2, pI x1, pR 178] LYb nx (h, r, s) Q)) ∧
  (∀ (l1 : Int) (x1 : Int) (x2 : Int) (nx : Nat) (h r : PF) (s : Int → Int) (Q : PO → PY → Nat → PC → Prop), (Wp 151 65 [some (pR 178), some (pI l1)] [pR 178, pI x2, pI x1, pR 178] LYb nx (h, r, s) Q ↔ Wp 151 66 [some (pR 178), some (pI l1)] [pI l1, pR 178, pI x2, pI x1, pR 178] LYb nx (h, r, s) Q)) ∧
  (∀ (l1 : Int) (x1 : Int) (x2 : Int) (x4 : Int) (nx : Nat) (h r : PF) (s : Int → Int) (Q : PO → PY → Nat → PC → Prop), (Wp 151 66 [some (pR 178), some (pI l1)] [pI x4, pR 178, pI x2, pI x1, pR 178] LYb nx (h, r, s) Q ↔ Wp 151 67 [some (pR 178), some (pI l1)] [pI 0, pI x4, pR 178, pI x2, pI x1, pR 178] LYb nx (h, r, s) Q)) ∧
  (∀ (l1 : Int) (x1 : Int) (x2 : Int) (x4 : Int) (x5 : Int) (nx : Nat) (h r : PF) (s : Int → Int) (Q : PO → PY → Nat → PC → Prop), (Wp 151 67 [some (pR 178), some (pI l1)] [pI x5, pI x4, pR 178, pI x2, pI x1, pR 178] LYb nx (h, r, s) Q ↔ Wp 153 0 [some (pR 178), some (pI x4), some (pI x5)] [] LYb nx (h, r, s) (Kc 151 67 [some (pR 178), some (pI l1)] 70 [pI x2, pI x1, pR 178] Q))) ∧
  (∀ (l1 : Int) (x1 : Int) (x2 : Int) (x3 : Int) (nx : Nat) (h r : PF) (s : Int → Int) (Q : PO → PY → Nat → PC → Prop), (Wp 151 70 [some (pR 178), some (pI l1)] [pI x3, pI x2, pI x1, pR 178] LYb nx (h, r, s) Q ↔ Wp 158 0 [some (pR 178), some (pI x1), some (pI x2), some (pI x3)] [] LYb nx (h, r, s) (Kc 151 70 [some (pR 178), some (pI l1)] 73 [] Q))) ∧
  (∀ (l1 : Int) (nx : Nat) (h r : PF) (s : Int → Int) (Q : PO → PY → Nat → PC → Prop), (Wp 151 73 [some (pR 178), some (pI l1)] [] LYb nx (h, r, s) Q ↔ Wp 151 74 [some (pR 178), some (pI l1)] [pR 178] LYb nx (h, r, s) Q)) ∧
  (∀ (l1 : Int) (nx : Nat) (h r : PF) (s : Int → Int) (Q : PO → PY → Nat → PC → Prop), (Wp 151 74 [some (pR 178), some (pI l1)] [pR 178] LYb nx (h, r, s) Q ↔ Wp 151 75 [some (pR 178), some (pI l1)] [pI l1, pR 178] LYb nx (h, r, s) Q)) ∧
  (∀ (l1 : Int) (x1 : Int) (nx : Nat) (h r : PF) (s : Int → Int) (Q : PO → PY → Nat → PC → Prop), (Wp 151 75 [some (pR 178), some (pI l1)] [pI x1, pR 178] LYb nx (h, r, s) Q ↔ Wp 151 76 [some (pR 178), some (pI l1)] [pI 2, pI x1, pR 178] LYb nx (h, r, s) Q)) ∧
  (∀ (l1 : Int) (x1 : Int) (x2 : Int) (nx : Nat) (h r : PF) (s : Int → Int) (Q : PO → PY → Nat → PC → Prop), (Wp 151 76 [some (pR 178), some (pI l1)] [pI x2, pI x1, pR 178] LYb nx (h, r, s) Q ↔ Wp 151 77 [some (pR 178), some (pI l1)] [pR 178, pI x2, pI x1, pR 178] LYb nx (h, r, s) Q)) ∧
  (∀ (l1 : Int) (x1 : Int) (x2 : Int) (nx : Nat) (h r : PF) (s : Int → Int) (Q : PO → PY → Nat → PC → Prop), (Wp 151 77 [some (pR 178), some (pI l1)] [pR 178, pI x2, pI x1, pR 178] LYb nx (h, r, s) Q ↔ Wp 151 78 [some (pR 178), some (pI l1)] [pI l1, pR 178, pI x2, pI x1, pR 178] LYb nx (h, r, s) Q)) ∧
  (∀ (l1 : Int) (x1 : Int) (x2 : Int) (x4 : Int) (nx : Nat) (h r : PF) (s : Int → Int) (Q : PO → PY → Nat → PC → Prop), (Wp 151 78 [some (pR 178), some (pI l1)] [pI x4, pR 178, pI x2, pI x1, pR 178] LYb nx (h, r, s) Q ↔ Wp 151 79 [some (pR 178), some (pI l1)] [pI 1, pI x4, pR 178, pI x2, pI x1, pR 178] LYb nx (h, r, s) Q)) ∧
  (∀ (l1 : Int) (x1 : Int) (x2 : Int) (x4 : Int) (x5 : Int) (nx : Nat) (h r : PF) (s : Int → Int) (Q : PO → PY → Nat → PC → Prop), (Wp 151 79 [some (pR 178), some (pI l1)] [pI x5, pI x4, pR 178, pI x2, pI x1, pR 178] LYb nx (h, r, s) Q ↔ Wp 153 0 [some (pR 178), some (pI x4), some (pI x5)] [] LYb nx (h, r, s) (Kc 151 79 [some (pR 178), some (pI l1)] 82 [pI x2, pI x1, pR 178] Q))) ∧
  (∀ (l1 : Int) (x1 : Int) (x2 : Int) (x3 : Int) (nx : Nat) (h r : PF) (s : Int → Int) (Q : PO → PY → Nat → PC → Prop), (Wp 151 82 [some (pR 178), some (pI l1)] [pI x3, pI x2, pI x1, pR 178] LYb nx (h, r, s) Q ↔ Wp 158 0 [some (pR 178), some (pI x1), some (pI x2), some (pI x3)] [] LYb nx (h, r, s) (Kc 151 82 [some (pR 178), some (pI l1)] 85 [] Q))) ∧
  (∀ (l1 : Int) (nx : Nat) (h r : PF) (s : Int → Int) (Q : PO → PY → Nat → PC → Prop), (Wp 151 85 [some (pR 178), some (pI l1)] [] LYb nx (h, r, s) Q ↔ Wp 151 86 [some (pR 178), some (pI l1)] [pR 178] LYb nx (h, r, s) Q)) ∧
  (∀ (l1 : Int) (nx : Nat) (h r : PF) (s : Int → Int) (Q : PO → PY → Nat → PC → Prop), (Wp 151 86 [some (pR 178), some (pI l1)] [pR 178] LYb nx (h, r, s) Q ↔ Wp 151 87 [some (pR 178), some (pI l1)] [pI l1, pR 178] LYb nx (h, r, s) Q)) ∧
  (∀ (l1 : Int) (x1 : Int) (nx : Nat) (h r : PF) (s : Int → Int) (Q : PO → PY → Nat → PC → Prop), (Wp 151 87 [some (pR 178), some (pI l1)] [pI x1, pR 178] LYb nx (h, r, s) Q ↔ Wp 159 0 [some (pR 178), some (pI x1), none] [] LYb nx (h, r, s) (Kc 151 87 [some (pR 178), some (pI l1)] 90 [] Q))) ∧
  (∀ (l1 : Int) (nx : Nat) (h r : PF) (s : Int → Int) (Q : PO → PY → Nat → PC → Prop), (Wp 151 90 [some (pR 178), some (pI l1)] [] LYb nx (h, r, s) Q ↔ Wp 151 93 [some (pR 178), some (pI (w32 (l1 + 1)))] [] LYb nx (h, r, s) Q)) ∧
  (∀ (l1 : Int) (nx : Nat) (h r : PF) (s : Int → Int) (Q : PO → PY → Nat → PC → Prop), (Wp 151 93 [some (pR 178), some (pI l1)] [] LYb nx (h, r, s) Q ↔ Wp 151 51 [some (pR 178), some (pI l1)] [] LYb nx (h, r, s) Q)) ∧
  (∀ (l1 : Int) (nx : Nat) (h r : PF) (s : Int → Int) (Q : PO → PY → Nat → PC → Prop), (Wp 151 96 [some (pR 178), some (pI l1)] [] LYb nx (h, r, s) Q ↔ Wp 151 97 [some (pR 178), some (pI l1)] [pR 178] LYb nx (h, r, s) Q)) ∧
  (∀ (l1 : Int) (nx : Nat) (h r : PF) (s : Int → Int) (Q : PO → PY → Nat → PC → Prop), (Wp 151 97 [some (pR 178), some (pI l1)] [pR 178] LYb nx (h, r, s) Q ↔ Wp 151 98 [some (pR 178), some (pI l1)] [pI 0, pR 178] LYb nx (h, r, s) Q)) ∧
  (∀ (l1 : Int) (x1 : Int) (nx : Nat) (h r : PF) (s : Int → Int) (Q : PO → PY → Nat → PC → Prop), (Wp 151 98 [some (pR 178), some (pI l1)] [pI x1, pR 178] LYb nx (h, r, s) Q ↔ Wp 151 101 [some (pR 178), some (pI l1)] [] LYb nx (fup h 178 26 x1, r, s) Q)) ∧
  (∀ (l1 : Int) (nx : Nat) (h r : PF) (s : Int → Int) (Q : PO → PY → Nat → PC → Prop), (Wp 151 101 [some (pR 178), some (pI l1)] [] LYb nx (h, r, s) Q ↔ Wp 151 102 [some (pR 178), some (pI l1)] [pR 178] LYb nx (h, r, s) Q)) ∧
  (∀ (l1 : Int) (nx : Nat) (h r : PF) (s : Int → Int) (Q : PO → PY → Nat → PC → Prop), WFr r → (Wp 151 102 [some (pR 178), some (pI l1)] [pR 178] LYb nx (h, r, s) Q ↔ Wp 151 105 [some (pR 178), some (pI l1)] [pR 194] LYb nx (h, r, s) Q)) ∧
  (∀ (l1 : Int) (nx : Nat) (h r : PF) (s : Int → Int) (Q : PO → PY → Nat → PC → Prop), (Wp 151 105 [some (pR 178), some (pI l1)] [pR 194] LYb nx (h, r, s) Q ↔ Wp 151 106 [some (pR 178), some (pI l1)] [pI 0, pR 194] LYb nx (h, r, s) Q)) ∧
  (∀ (l1 : Int) (x1 : Int) (nx : Nat) (h r : PF) (s : Int → Int) (Q : PO → PY → Nat → PC → Prop), (Wp 151 106 [some (pR 178), some (pI l1)] [pI x1, pR 194] LYb nx (h, r, s) Q ↔ Wp 151 107 [some (pR 178), some (pI l1)] [pI 0, pI x1, pR 194] LYb nx (h, r, s) Q)) :=
  ⟨fun  nx h r s Q  => o_iconst (by decide +kernel : pcode 151 0 = some (1, 0, 0, 0, 0)),
  fun x0 nx h r s Q  => o_istore_n (by decide +kernel : pcode 151 1 = some (12, 1, 0, 0, 0)) rfl,
  fun l1 x0 nx h r s Q  => o_sipush (by decide +kernel : pcode 151 3 = some (3, 0, 0, 0, 164)),
  fun l1 x0 x1 nx h r s Q  => o_icmp_ge (by decide +kernel : pcode 151 6 = some (50, 27, 0, 0, 21)),
  fun l1 nx h r s Q  => o_aload_n (by decide +kernel : pcode 151 9 = some (10, 0, 0, 0, 0)) rfl,
  fun l1 nx h r s Q hw => o_getR (h := (h, r, s)) (by decide +kernel : pcode 151 10 = some (57, 1218, 8, 1, 7)) (by decide) (by decide +kernel) (hw _ (List.mem_of_getElem? (i := 172) rfl)) (by decide),
  fun l1 nx h r s Q  => o_iload_n (by decide +kernel : pcode 151 13 = some (6, 1, 0, 0, 0)) rfl,
  fun l1 x1 nx h r s Q  => o_aload_n (by decide +kernel : pcode 151 14 = some (10, 0, 0, 0, 0)) rfl,
  fun l1 x1 nx h r s Q hw => o_getR (h := (h, r, s)) (by decide +kernel : pcode 151 15 = some (57, 1232, 8, 15, 24)) (by decide) (by decide +kernel) (hw _ (List.mem_of_getElem? (i := 175) rfl)) (by decide),
  fun l1 x1 nx h r s Q  => o_iload_n (by decide +kernel : pcode 151 18 = some (6, 1, 0, 0, 0)) rfl,
  fun l1 x1 x3 nx h r s Q hi hn => o_iald (h := (h, r, s)) (n := 164) (by decide +kernel : pcode 151 19 = some (63, 0, 0, 0, 0)) (by decide) (by decide +kernel) hi hn,
  fun l1 x1 x2 nx h r s Q hi hn => o_iast (h := (h, r, s)) (n := 164) (by decide +kernel : pcode 151 20 = some (64, 0, 0, 0, 0)) (by decide) (by decide +kernel) hi hn,
  fun l1 nx h r s Q  => o_iinc (by decide +kernel : pcode 151 21 = some (18, 1, 0, 0, 1)) rfl rfl,
  fun l1 nx h r s Q  => o_goto (by decide +kernel : pcode 151 24 = some (53, 2, 0, 0, -22)),
  fun l1 nx h r s Q  => o_iconst (by decide +kernel : pcode 151 27 = some (1, 0, 0, 0, 0)),
  fun l1 x0 nx h r s Q  => o_istore_n (by decide +kernel : pcode 151 28 = some (12, 1, 0, 0, 0)) rfl,
  fun l1 x0 nx h r s Q  => o_sipush (by decide +kernel : pcode 151 30 = some (3, 0, 0, 0, 195)),
  fun l1 x0 x1 nx h r s Q  => o_icmp_ge (by decide +kernel : pcode 151 33 = some (50, 49, 0, 0, 16)),
  fun l1 nx h r s Q  => o_aload_n (by decide +kernel : pcode 151 36 = some (10, 0, 0, 0, 0)) rfl,
  fun l1 nx h r s Q hw => o_getR (h := (h, r, s)) (by decide +kernel : pcode 151 37 = some (57, 1219, 8, 2, 13)) (by decide) (by decide +kernel) (hw _ (List.mem_of_getElem? (i := 173) rfl)) (by decide),
  fun l1 nx h r s Q  => o_iload_n (by decide +kernel : pcode 151 40 = some (6, 1, 0, 0, 0)) rfl,
  fun l1 x1 nx h r s Q  => o_iconst (by decide +kernel : pcode 151 41 = some (1, 0, 0, 0, 0)),
  fun l1 x1 x2 nx h r s Q hi hn => o_iast (h := (h, r, s)) (n := 195) (by decide +kernel : pcode 151 42 = some (64, 0, 0, 0, 0)) (by decide) (by decide +kernel) hi hn,
  fun l1 nx h r s Q  => o_iinc (by decide +kernel : pcode 151 43 = some (18, 1, 0, 0, 1)) rfl rfl,
  fun l1 nx h r s Q  => o_goto (by decide +kernel : pcode 151 46 = some (53, 29, 0, 0, -17)),
  fun l1 nx h r s Q  => o_iconst (by decide +kernel : pcode 151 49 = some (1, 0, 0, 0, 0)),
  fun l1 x0 nx h r s Q  => o_istore_n (by decide +kernel : pcode 151 50 = some (12, 1, 0, 0, 0)) rfl,
  fun l1 x0 nx h r s Q  => o_aload_n (by decide +kernel : pcode 151 52 = some (10, 0, 0, 0, 0)) rfl,
  fun l1 x0 nx h r s Q hw => o_getR (h := (h, r, s)) (by decide +kernel : pcode 151 53 = some (57, 1218, 8, 1, 7)) (by decide) (by decide +kernel) (hw _ (List.mem_of_getElem? (i := 172) rfl)) (by decide),
  fun l1 x0 nx h r s Q  => o_iconst (by decide +kernel : pcode 151 56 = some (1, 0, 0, 0, 1)),
  fun l1 x0 x2 nx h r s Q hi hn => o_iald (h := (h, r, s)) (n := 164) (by decide +kernel : pcode 151 57 = some (63, 0, 0, 0, 0)) (by decide) (by decide +kernel) hi hn,
  fun l1 x0 x1 nx h r s Q  => o_icmp_ge (by decide +kernel : pcode 151 58 = some (50, 96, 0, 0, 38)),
  fun l1 nx h r s Q  => o_aload_n (by decide +kernel : pcode 151 61 = some (10, 0, 0, 0, 0)) rfl,
  fun l1 nx h r s Q  => o_iload_n (by decide +kernel : pcode 151 62 = some (6, 1, 0, 0, 0)) rfl,
  fun l1 x1 nx h r s Q  => o_iconst (by decide +kernel : pcode 151 63 = some (1, 0, 0, 0, 1)),
  fun l1 x1 x2 nx h r s Q  => o_aload_n (by decide +kernel : pcode 151 64 = some (10, 0, 0, 0, 0)) rfl,
  fun l1 x1 x2 nx h r s Q  => o_iload_n (by decide +kernel : pcode 151 65 = some (6, 1, 0, 0, 0)) rfl,
  fun l1 x1 x2 x4 nx h r s Q  => o_iconst (by decide +kernel : pcode 151 66 = some (1, 0, 0, 0, 0)),
  fun l1 x1 x2 x4 x5 nx h r s Q  => o_ivV (s1 := [pI x5, pI x4]) (s2 := [pI x2, pI x1, pR 178]) (o := 178) (by decide +kernel : pcode 151 67 = some (78, 153, 3, 1201, 204)) rfl (Nat.le_of_ble_eq_true rfl) (by decide) (by decide +kernel) rfl rfl rfl,
  fun l1 x1 x2 x3 nx h r s Q  => o_ivV (s1 := [pI x3, pI x2, pI x1]) (s2 := []) (o := 178) (by decide +kernel : pcode 151 70 = some (78, 158, 4, 1205, 208)) rfl (Nat.le_of_ble_eq_true rfl) (by decide) (by decide +kernel) rfl rfl rfl,
  fun l1 nx h r s Q  => o_aload_n (by decide +kernel : pcode 151 73 = some (10, 0, 0, 0, 0)) rfl,
  fun l1 nx h r s Q  => o_iload_n (by decide +kernel : pcode 151 74 = some (6, 1, 0, 0, 0)) rfl,
  fun l1 x1 nx h r s Q  => o_iconst (by decide +kernel : pcode 151 75 = some (1, 0, 0, 0, 2)),
  fun l1 x1 x2 nx h r s Q  => o_aload_n (by decide +kernel : pcode 151 76 = some (10, 0, 0, 0, 0)) rfl,
  fun l1 x1 x2 nx h r s Q  => o_iload_n (by decide +kernel : pcode 151 77 = some (6, 1, 0, 0, 0)) rfl,
  fun l1 x1 x2 x4 nx h r s Q  => o_iconst (by decide +kernel : pcode 151 78 = some (1, 0, 0, 0, 1)),
  fun l1 x1 x2 x4 x5 nx h r s Q  => o_ivV (s1 := [pI x5, pI x4]) (s2 := [pI x2, pI x1, pR 178]) (o := 178) (by decide +kernel : pcode 151 79 = some (78, 153, 3, 1201, 204)) rfl (Nat.le_of_ble_eq_true rfl) (by decide) (by decide +kernel) rfl rfl rfl,
  fun l1 x1 x2 x3 nx h r s Q  => o_ivV (s1 := [pI x3, pI x2, pI x1]) (s2 := []) (o := 178) (by decide +kernel : pcode 151 82 = some (78, 158, 4, 1205, 208)) rfl (Nat.le_of_ble_eq_true rfl) (by decide) (by decide +kernel) rfl rfl rfl,
  fun l1 nx h r s Q  => o_aload_n (by decide +kernel : pcode 151 85 = some (10, 0, 0, 0, 0)) rfl,
  fun l1 nx h r s Q  => o_iload_n (by decide +kernel : pcode 151 86 = some (6, 1, 0, 0, 0)) rfl,
  fun l1 x1 nx h r s Q  => o_ivV (s1 := [pI x1]) (s2 := []) (o := 178) (by decide +kernel : pcode 151 87 = some (78, 159, 2, 1209, 212)) rfl (Nat.le_of_ble_eq_true rfl) (by decide) (by decide +kernel) rfl rfl rfl,
  fun l1 nx h r s Q  => o_iinc (by decide +kernel : pcode 151 90 = some (18, 1, 0, 0, 1)) rfl rfl,
  fun l1 nx h r s Q  => o_goto (by decide +kernel : pcode 151 93 = some (53, 51, 0, 0, -42)),
  fun l1 nx h r s Q  => o_aload_n (by decide +kernel : pcode 151 96 = some (10, 0, 0, 0, 0)) rfl,
  fun l1 nx h r s Q  => o_iconst (by decide +kernel : pcode 151 97 = some (1, 0, 0, 0, 0)),
  fun l1 x1 nx h r s Q  => o_putI (by decide +kernel : pcode 151 98 = some (58, 1243, 8, 26, 215)) (by decide) (by decide +kernel),
  fun l1 nx h r s Q  => o_aload_n (by decide +kernel : pcode 151 101 = some (10, 0, 0, 0, 0)) rfl,
  fun l1 nx h r s Q hw => o_getR (h := (h, r, s)) (by decide +kernel : pcode 151 102 = some (57, 1246, 8, 29, 61)) (by decide) (by decide +kernel) (hw _ (List.mem_of_getElem? (i := 187) rfl)) (by decide),
  fun l1 nx h r s Q  => o_iconst (by decide +kernel : pcode 151 105 = some (1, 0, 0, 0, 0)),
  fun l1 x1 nx h r s Q  => o_iconst (by decide +kernel : pcode 151 106 = some (1, 0, 0, 0, 0))⟩
set_option maxHeartbeats 4000000 in
set_option maxRecDepth 10000 in
theorem sb_X8_begins_1 :
  (∀ (l1 : Int) (x1 : Int) (x2 : Int) (nx : Nat) (h r : PF) (s : Int → Int) (Q : PO → PY → Nat → PC → Prop), 0 ≤ x1 → x1 < 2 → x2 = 0 ∨ x2 = 1 → (Wp 151 107 [some (pR 178), some (pI l1)] [pI x2, pI x1, pR 194] LYb nx (h, r, s) Q ↔ Wp 151 108 [some (pR 178), some (pI l1)] [] LYb nx (fup h 194 x1 x2, r, s) Q)) ∧
  (∀ (l1 : Int) (nx : Nat) (h r : PF) (s : Int → Int) (Q : PO → PY → Nat → PC → Prop), (Wp 151 108 [some (pR 178), some (pI l1)] [] LYb nx (h, r, s) Q ↔ Wp 151 109 [some (pR 178), some (pI l1)] [pR 178] LYb nx (h, r, s) Q)) ∧
  (∀ (l1 : Int) (nx : Nat) (h r : PF) (s : Int → Int) (Q : PO → PY → Nat → PC → Prop), WFr r → (Wp 151 109 [some (pR 178), some (pI l1)] [pR 178] LYb nx (h, r, s) Q ↔ Wp 151 112 [some (pR 178), some (pI l1)] [pR 194] LYb nx (h, r, s) Q)) ∧
  (∀ (l1 : Int) (nx : Nat) (h r : PF) (s : Int → Int) (Q : PO → PY → Nat → PC → Prop), (Wp 151 112 [some (pR 178), some (pI l1)] [pR 194] LYb nx (h, r, s) Q ↔ Wp 151 113 [some (pR 178), some (pI l1)] [pI 1, pR 194] LYb nx (h, r, s) Q)) ∧
  (∀ (l1 : Int) (x1 : Int) (nx : Nat) (h r : PF) (s : Int → Int) (Q : PO → PY → Nat → PC → Prop), (Wp 151 113 [some (pR 178), some (pI l1)] [pI x1, pR 194] LYb nx (h, r, s) Q ↔ Wp 151 114 [some (pR 178), some (pI l1)] [pI 0, pI x1, pR 194] LYb nx (h, r, s) Q)) ∧
  (∀ (l1 : Int) (x1 : Int) (x2 : Int) (nx : Nat) (h r : PF) (s : Int → Int) (Q : PO → PY → Nat → PC → Prop), 0 ≤ x1 → x1 < 2 → x2 = 0 ∨ x2 = 1 → (Wp 151 114 [some (pR 178), some (pI l1)] [pI x2, pI x1, pR 194] LYb nx (h, r, s) Q ↔ Wp 151 115 [some (pR 178), some (pI l1)] [] LYb nx (fup h 194 x1 x2, r, s) Q)) ∧
  (∀ (l1 : Int) (nx : Nat) (h r : PF) (s : Int → Int) (Q : PO → PY → Nat → PC → Prop), (Wp 151 115 [some (pR 178), some (pI l1)] [] LYb nx (h, r, s) Q ↔ Q (Sum.inl none) LYb nx (h, r, s))) :=
  ⟨fun l1 x1 x2 nx h r s Q hi hn hz => o_zast (h := (h, r, s)) (n := 2) (by decide +kernel : pcode 151 107 = some (70, 0, 0, 0, 0)) (by decide) (by decide +kernel) hi hn hz,
  fun l1 nx h r s Q  => o_aload_n (by decide +kernel : pcode 151 108 = some (10, 0, 0, 0, 0)) rfl,
  fun l1 nx h r s Q hw => o_getR (h := (h, r, s)) (by decide +kernel : pcode 151 109 = some (57, 1246, 8, 29, 61)) (by decide) (by decide +kernel) (hw _ (List.mem_of_getElem? (i := 187) rfl)) (by decide),
  fun l1 nx h r s Q  => o_iconst (by decide +kernel : pcode 151 112 = some (1, 0, 0, 0, 1)),
  fun l1 x1 nx h r s Q  => o_iconst (by decide +kernel : pcode 151 113 = some (1, 0, 0, 0, 0)),
  fun l1 x1 x2 nx h r s Q hi hn hz => o_zast (h := (h, r, s)) (n := 2) (by decide +kernel : pcode 151 114 = some (70, 0, 0, 0, 0)) (by decide) (by decide +kernel) hi hn hz,
  fun l1 nx h r s Q  => o_vret (by decide +kernel : pcode 151 115 = some (90, 0, 0, 0, 0))⟩
theorem sg_X8_begins_2 {l1 : Int} {nx : Nat} {h r : PF} {s : Int → Int} {Q : PO → PY → Nat → PC → Prop} : (Wp 151 2 [some (pR 178), some (pI l1)] [] LYb nx (h, r, s) Q ↔ Wp 151 3 [some (pR 178), some (pI l1)] [pI l1] LYb nx (h, r, s) Q) := o_iload_n (by decide +kernel : pcode 151 2 = some (6, 1, 0, 0, 0)) rfl
theorem sg_X8_begins_29 {l1 : Int} {nx : Nat} {h r : PF} {s : Int → Int} {Q : PO → PY → Nat → PC → Prop} : (Wp 151 29 [some (pR 178), some (pI l1)] [] LYb nx (h, r, s) Q ↔ Wp 151 30 [some (pR 178), some (pI l1)] [pI l1] LYb nx (h, r, s) Q) := o_iload_n (by decide +kernel : pcode 151 29 = some (6, 1, 0, 0, 0)) rfl
theorem sg_X8_begins_51 {l1 : Int} {nx : Nat} {h r : PF} {s : Int → Int} {Q : PO → PY → Nat → PC → Prop} : (Wp 151 51 [some (pR 178), some (pI l1)] [] LYb nx (h, r, s) Q ↔ Wp 151 52 [some (pR 178), some (pI l1)] [pI l1] LYb nx (h, r, s) Q) := o_iload_n (by decide +kernel : pcode 151 51 = some (6, 1, 0, 0, 0)) rfl
theorem S_fillL {a v : Int} {n : Nat} {lay : PY} {nx : Nat} {h r : PF} {s : Int → Int} {Q : PO → PY → Nat → PC → Prop} (h0 : 0 < a) (hk : kd lay a = (1, n)) (hn : (n : Int) < 2147483648) : Wp 229 0 [some (pR a), some (pI v), none, none] [] lay nx (h, r, s) Q ↔ Q (Sum.inl none) lay nx (frng h a 0 n (fun _ => v), r, s) := by
  simp (disch := first | assumption | omega) only [sb_J7_fill_53178, ↓if_pos, ↓if_neg, if_pos, if_neg, w32_id, Kv, Kn, fup_s, fup_a, fup_k, fup_fup, frng_a, fcpy_a, Int.reduceAdd]
  refine Iff.trans (loopR (Lf := fun i => [some (pR a), some (pI v), some (pI i), some (pI n)]) (Hf := fun i => frng h a 0 i (fun _ => v)) (a := 0) (n := n) (by omega) (by rfl) (frng_nil (by omega)).symm ?_) ?_
  · intro i hi hi2
    refine Iff.trans sg_J7_fill_53178_5 ?_
    simp (disch := first | assumption | omega) only [sb_J7_fill_53178, ↓if_pos, ↓if_neg, if_pos, if_neg, w32_id, Kv, Kn, fup_s, fup_a, fup_k, fup_fup, frng_a, fcpy_a, Int.reduceAdd]
    rw [frng_end (by omega) rfl]
  · refine Iff.trans sg_J7_fill_53178_5 ?_
    simp (disch := first | assumption | omega) only [sb_J7_fill_53178, ↓if_pos, ↓if_neg, if_pos, if_neg, w32_id, Kv, Kn, fup_s, fup_a, fup_k, fup_fup, frng_a, fcpy_a, Int.reduceAdd]
def clr0 (h : PF) : PF := fup (fup (fup (frng h 182 0 164 (fun _ => 0)) 182 2 4) 182 3 1) 178 14 0
theorem S_clearsReadB {nx : Nat} {h r : PF} {s : Int → Int} {Q : PO → PY → Nat → PC → Prop} (hW : WFr r) : Wp 149 0 [some (pR 178), none] [] LYb nx (h, r, s) Q ↔ Q (Sum.inl none) LYb nx (clr0 h, r, s) := by
  simp (disch := first | assumption | omega) only [sb_X8_clearsRead, ↓if_pos, ↓if_neg, if_pos, if_neg, w32_id, Kv, Kn, fup_s, fup_a, fup_k, fup_fup, frng_a, fcpy_a, Int.reduceAdd]
  refine Iff.trans (loopR (Lf := fun i => [some (pR 178), some (pI i)]) (Hf := fun i => frng h 182 0 i (fun _ => 0)) (a := 0) (n := 164) (by omega) (by rfl) (frng_nil (by omega)).symm ?_) ?_
  · intro i hi hi2
    refine Iff.trans sg_X8_clearsRead_2 ?_
    simp (disch := first | assumption | omega) only [sb_X8_clearsRead, ↓if_pos, ↓if_neg, if_pos, if_neg, w32_id, Kv, Kn, fup_s, fup_a, fup_k, fup_fup, frng_a, fcpy_a, Int.reduceAdd]
    rw [frng_end (by omega) rfl]
  · refine Iff.trans sg_X8_clearsRead_2 ?_
    simp (disch := first | assumption | omega) only [sb_X8_clearsRead, ↓if_pos, ↓if_neg, if_pos, if_neg, w32_id, Kv, Kn, fup_s, fup_a, fup_k, fup_fup, frng_a, fcpy_a, Int.reduceAdd]
    rfl
def beg0 (h : PF) : PF := fup (fup (fup (frng (fcpy h 182 0 179 0 164) 180 0 195 (fun _ => 0)) 178 26 0) 194 0 0) 194 1 0
theorem S_beginsB {nx : Nat} {h r : PF} {s : Int → Int} {Q : PO → PY → Nat → PC → Prop} (hW : WFr r) (h1 : h 182 1 = 0) : Wp 151 0 [some (pR 178), none] [] LYb nx (h, r, s) Q ↔ Q (Sum.inl none) LYb nx (beg0 h, r, s) := by
  simp (disch := first | assumption | omega) only [sb_X8_begins_0, sb_X8_begins_1, ↓if_pos, ↓if_neg, if_pos, if_neg, w32_id, Kv, Kn, fup_s, fup_a, fup_k, fup_fup, frng_a, fcpy_a, Int.reduceAdd]
  refine Iff.trans (loopR (Lf := fun i => [some (pR 178), some (pI i)]) (Hf := fun i => fcpy h 182 0 179 0 i) (a := 0) (n := 164) (by omega) (by rfl) (fcpy_nil (by omega)).symm ?_) ?_
  · intro i hi hi2
    refine Iff.trans sg_X8_begins_2 ?_
    simp (disch := first | assumption | omega) only [sb_X8_begins_0, sb_X8_begins_1, ↓if_pos, ↓if_neg, if_pos, if_neg, w32_id, Kv, Kn, fup_s, fup_a, fup_k, fup_fup, frng_a, fcpy_a, Int.reduceAdd]
    refine Wp_cong rfl ?_
    rw [← fcpy_end (by omega) (Or.inl (by omega)), Int.zero_add, fcpy_a (by omega)]
  · refine Iff.trans sg_X8_begins_2 ?_
    simp (disch := first | assumption | omega) only [sb_X8_begins_0, sb_X8_begins_1, ↓if_pos, ↓if_neg, if_pos, if_neg, w32_id, Kv, Kn, fup_s, fup_a, fup_k, fup_fup, frng_a, fcpy_a, Int.reduceAdd]
    refine Iff.trans (loopR (Lf := fun i => [some (pR 178), some (pI i)]) (Hf := fun i => frng (fcpy h 182 0 179 0 164) 180 0 i (fun _ => 0)) (a := 0) (n := 195) (by omega) (by rfl) (frng_nil (by omega)).symm ?_) ?_
    · intro i hi hi2
      refine Iff.trans sg_X8_begins_29 ?_
      simp (disch := first | assumption | omega) only [sb_X8_begins_0, sb_X8_begins_1, ↓if_pos, ↓if_neg, if_pos, if_neg, w32_id, Kv, Kn, fup_s, fup_a, fup_k, fup_fup, frng_a, fcpy_a, Int.reduceAdd]
      rw [frng_end (by omega) rfl]
    · refine Iff.trans sg_X8_begins_29 ?_
      have h2 : fcpy h 182 0 179 0 164 179 1 = 0 := by rw [fcpy_in (by omega) (by omega)]; exact h1
      simp (disch := first | assumption | omega) only [sb_X8_begins_0, sb_X8_begins_1, ↓if_pos, ↓if_neg, if_pos, if_neg, w32_id, Kv, Kn, fup_s, fup_a, fup_k, fup_fup, frng_a, fcpy_a, Int.reduceAdd, sg_X8_begins_51]
      rfl
theorem fcpy_nil0 : True := trivial
/-- what some calls of the constructors do, all at once -/
def summ (mj : Nat) (args : List PV) (lay : PY) (h : PC) : Option PF :=
  if mj = 229 then (match args with
    | [Sum.inr (Sum.inr a), Sum.inl v] => if 0 < a ∧ ak lay a = 1 ∧ al lay a < 2147483648 then some (frng h.1 a 0 (al lay a) (fun _ => v)) else none
    | _ => none)
  else if mj = 149 then (if args = [pR 178] ∧ lay = LYb ∧ crT.all (fun q => decide (h.2.1 q.1 q.2.1 = q.2.2)) = true then some (clr0 h.1) else none)
  else if mj = 151 then (if args = [pR 178] ∧ lay = LYb ∧ crT.all (fun q => decide (h.2.1 q.1 q.2.1 = q.2.2)) = true ∧ h.1 182 1 = 0 then some (beg0 h.1) else none)
  else none
theorem wfr_all {r : PF} (h : crT.all (fun q => decide (r q.1 q.2.1 = q.2.2)) = true) : WFr r := fun q hq => of_decide_eq_true (List.all_eq_true.mp h q hq)
theorem summ_ok {mj : Nat} {args : List PV} {lay : PY} {h : PC} {g : PF} (hs : summ mj args lay h = some g) {nx : Nat} {s : Int → Int} {Q : PO → PY → Nat → PC → Prop} : Wp mj 0 (entL args (pnL mj)) [] lay nx (h.1, h.2.1, s) Q ↔ Q (Sum.inl none) lay nx (g, h.2.1, s) := by
  unfold summ at hs
  by_cases h1 : mj = 229
  · subst h1
    rw [if_pos rfl] at hs
    split at hs
    · rename_i a v
      by_cases hc : 0 < a ∧ ak lay a = 1 ∧ al lay a < 2147483648
      · rw [if_pos hc] at hs
        cases hs
        have hk : kd lay a = (1, (kd lay a).2) := by
          have := hc.2.1
          unfold ak at this
          rw [← this]
        exact S_fillL hc.1 hk hc.2.2
      · rw [if_neg hc] at hs; cases hs
    · cases hs
  rw [if_neg h1] at hs
  by_cases h2 : mj = 149
  · subst h2
    rw [if_pos rfl] at hs
    by_cases hc : args = [pR 178] ∧ lay = LYb ∧ crT.all (fun q => decide (h.2.1 q.1 q.2.1 = q.2.2)) = true
    · rw [if_pos hc] at hs
      obtain ⟨rfl, rfl, hr⟩ := hc
      cases hs
      exact S_clearsReadB (wfr_all hr)
    · rw [if_neg hc] at hs; cases hs
  rw [if_neg h2] at hs
  by_cases h3 : mj = 151
  · subst h3
    rw [if_pos rfl] at hs
    by_cases hc : args = [pR 178] ∧ lay = LYb ∧ crT.all (fun q => decide (h.2.1 q.1 q.2.1 = q.2.2)) = true ∧ h.1 182 1 = 0
    · rw [if_pos hc] at hs
      obtain ⟨rfl, rfl, hr, hm⟩ := hc
      cases hs
      exact S_beginsB (wfr_all hr) hm
    · rw [if_neg hc] at hs; cases hs
  rw [if_neg h3] at hs
  cases hs
/-- the same with another script -/
def reS (s : Int → Int) : PR → PR
  | Sum.inl (pc, L, st, lay, nx, h) => Sum.inl (pc, L, st, lay, nx, (h.1, h.2.1, s))
  | Sum.inr z => Sum.inr z
def wiS (s : Int → Int) (σ : PS) : PS := (σ.1, σ.2.1, σ.2.2.1, σ.2.2.2.1, σ.2.2.2.2.1, (σ.2.2.2.2.2.1, σ.2.2.2.2.2.2.1, s))
theorem rs_iconst {q : PI} {σ : PS} {s : Int → Int} {z : PR} (hs : s_iconst q σ = some z) : s_iconst q (wiS s σ) = some (reS s z) := by
  unfold s_iconst pnext at hs
  (repeat' split at hs) <;> first | (cases hs; done) | (cases hs; rfl) | (cases hs; exact if_pos ‹_›) | (cases hs; simp_all [s_iconst, wiS, reS, pnext]; done) | (cases hs; simp_all [s_iconst, wiS, reS, pnext, pup, rup, pzero, pcpy]; done) | (cases hs; simp_all [s_iconst, wiS, reS, pnext]; intros; omega)
theorem rs_bipush {q : PI} {σ : PS} {s : Int → Int} {z : PR} (hs : s_bipush q σ = some z) : s_bipush q (wiS s σ) = some (reS s z) := by
  unfold s_bipush pnext at hs
  (repeat' split at hs) <;> first | (cases hs; done) | (cases hs; rfl) | (cases hs; exact if_pos ‹_›) | (cases hs; simp_all [s_bipush, wiS, reS, pnext]; done) | (cases hs; simp_all [s_bipush, wiS, reS, pnext, pup, rup, pzero, pcpy]; done) | (cases hs; simp_all [s_bipush, wiS, reS, pnext]; intros; omega)
theorem rs_sipush {q : PI} {σ : PS} {s : Int → Int} {z : PR} (hs : s_sipush q σ = some z) : s_sipush q (wiS s σ) = some (reS s z) := by
  unfold s_sipush pnext at hs
  (repeat' split at hs) <;> first | (cases hs; done) | (cases hs; rfl) | (cases hs; exact if_pos ‹_›) | (cases hs; simp_all [s_sipush, wiS, reS, pnext]; done) | (cases hs; simp_all [s_sipush, wiS, reS, pnext, pup, rup, pzero, pcpy]; done) | (cases hs; simp_all [s_sipush, wiS, reS, pnext]; intros; omega)
theorem rs_lconst {q : PI} {σ : PS} {s : Int → Int} {z : PR} (hs : s_lconst q σ = some z) : s_lconst q (wiS s σ) = some (reS s z) := by
  unfold s_lconst pnext at hs
  (repeat' split at hs) <;> first | (cases hs; done) | (cases hs; rfl) | (cases hs; exact if_pos ‹_›) | (cases hs; simp_all [s_lconst, wiS, reS, pnext]; done) | (cases hs; simp_all [s_lconst, wiS, reS, pnext, pup, rup, pzero, pcpy]; done) | (cases hs; simp_all [s_lconst, wiS, reS, pnext]; intros; omega)
theorem rs_ldci {q : PI} {σ : PS} {s : Int → Int} {z : PR} (hs : s_ldci q σ = some z) : s_ldci q (wiS s σ) = some (reS s z) := by
  unfold s_ldci pnext at hs
  (repeat' split at hs) <;> first | (cases hs; done) | (cases hs; rfl) | (cases hs; exact if_pos ‹_›) | (cases hs; simp_all [s_ldci, wiS, reS, pnext]; done) | (cases hs; simp_all [s_ldci, wiS, reS, pnext, pup, rup, pzero, pcpy]; done) | (cases hs; simp_all [s_ldci, wiS, reS, pnext]; intros; omega)
theorem rs_iload_n {q : PI} {σ : PS} {s : Int → Int} {z : PR} (hs : s_iload_n q σ = some z) : s_iload_n q (wiS s σ) = some (reS s z) := by
  unfold s_iload_n pnext at hs
  (repeat' split at hs) <;> first | (cases hs; done) | (cases hs; rfl) | (cases hs; exact if_pos ‹_›) | (cases hs; simp_all [s_iload_n, wiS, reS, pnext]; done) | (cases hs; simp_all [s_iload_n, wiS, reS, pnext, pup, rup, pzero, pcpy]; done) | (cases hs; simp_all [s_iload_n, wiS, reS, pnext]; intros; omega)
theorem rs_iload {q : PI} {σ : PS} {s : Int → Int} {z : PR} (hs : s_iload q σ = some z) : s_iload q (wiS s σ) = some (reS s z) := by
  unfold s_iload pnext at hs
  (repeat' split at hs) <;> first | (cases hs; done) | (cases hs; rfl) | (cases hs; exact if_pos ‹_›) | (cases hs; simp_all [s_iload, wiS, reS, pnext]; done) | (cases hs; simp_all [s_iload, wiS, reS, pnext, pup, rup, pzero, pcpy]; done) | (cases hs; simp_all [s_iload, wiS, reS, pnext]; intros; omega)
theorem rs_lload_n {q : PI} {σ : PS} {s : Int → Int} {z : PR} (hs : s_lload_n q σ = some z) : s_lload_n q (wiS s σ) = some (reS s z) := by
  unfold s_lload_n pnext at hs
  (repeat' split at hs) <;> first | (cases hs; done) | (cases hs; rfl) | (cases hs; exact if_pos ‹_›) | (cases hs; simp_all [s_lload_n, wiS, reS, pnext]; done) | (cases hs; simp_all [s_lload_n, wiS, reS, pnext, pup, rup, pzero, pcpy]; done) | (cases hs; simp_all [s_lload_n, wiS, reS, pnext]; intros; omega)
theorem rs_lload {q : PI} {σ : PS} {s : Int → Int} {z : PR} (hs : s_lload q σ = some z) : s_lload q (wiS s σ) = some (reS s z) := by
  unfold s_lload pnext at hs
  (repeat' split at hs) <;> first | (cases hs; done) | (cases hs; rfl) | (cases hs; exact if_pos ‹_›) | (cases hs; simp_all [s_lload, wiS, reS, pnext]; done) | (cases hs; simp_all [s_lload, wiS, reS, pnext, pup, rup, pzero, pcpy]; done) | (cases hs; simp_all [s_lload, wiS, reS, pnext]; intros; omega)
theorem rs_aload_n {q : PI} {σ : PS} {s : Int → Int} {z : PR} (hs : s_aload_n q σ = some z) : s_aload_n q (wiS s σ) = some (reS s z) := by
  unfold s_aload_n pnext at hs
  (repeat' split at hs) <;> first | (cases hs; done) | (cases hs; rfl) | (cases hs; exact if_pos ‹_›) | (cases hs; simp_all [s_aload_n, wiS, reS, pnext]; done) | (cases hs; simp_all [s_aload_n, wiS, reS, pnext, pup, rup, pzero, pcpy]; done) | (cases hs; simp_all [s_aload_n, wiS, reS, pnext]; intros; omega)
theorem rs_aload {q : PI} {σ : PS} {s : Int → Int} {z : PR} (hs : s_aload q σ = some z) : s_aload q (wiS s σ) = some (reS s z) := by
  unfold s_aload pnext at hs
  (repeat' split at hs) <;> first | (cases hs; done) | (cases hs; rfl) | (cases hs; exact if_pos ‹_›) | (cases hs; simp_all [s_aload, wiS, reS, pnext]; done) | (cases hs; simp_all [s_aload, wiS, reS, pnext, pup, rup, pzero, pcpy]; done) | (cases hs; simp_all [s_aload, wiS, reS, pnext]; intros; omega)
theorem rs_istore_n {q : PI} {σ : PS} {s : Int → Int} {z : PR} (hs : s_istore_n q σ = some z) : s_istore_n q (wiS s σ) = some (reS s z) := by
  unfold s_istore_n pnext at hs
  (repeat' split at hs) <;> first | (cases hs; done) | (cases hs; rfl) | (cases hs; exact if_pos ‹_›) | (cases hs; simp_all [s_istore_n, wiS, reS, pnext]; done) | (cases hs; simp_all [s_istore_n, wiS, reS, pnext, pup, rup, pzero, pcpy]; done) | (cases hs; simp_all [s_istore_n, wiS, reS, pnext]; intros; omega)
theorem rs_istore {q : PI} {σ : PS} {s : Int → Int} {z : PR} (hs : s_istore q σ = some z) : s_istore q (wiS s σ) = some (reS s z) := by
  unfold s_istore pnext at hs
  (repeat' split at hs) <;> first | (cases hs; done) | (cases hs; rfl) | (cases hs; exact if_pos ‹_›) | (cases hs; simp_all [s_istore, wiS, reS, pnext]; done) | (cases hs; simp_all [s_istore, wiS, reS, pnext, pup, rup, pzero, pcpy]; done) | (cases hs; simp_all [s_istore, wiS, reS, pnext]; intros; omega)
theorem rs_lstore_n {q : PI} {σ : PS} {s : Int → Int} {z : PR} (hs : s_lstore_n q σ = some z) : s_lstore_n q (wiS s σ) = some (reS s z) := by
  unfold s_lstore_n pnext at hs
  (repeat' split at hs) <;> first | (cases hs; done) | (cases hs; rfl) | (cases hs; exact if_pos ‹_›) | (cases hs; simp_all [s_lstore_n, wiS, reS, pnext]; done) | (cases hs; simp_all [s_lstore_n, wiS, reS, pnext, pup, rup, pzero, pcpy]; done) | (cases hs; simp_all [s_lstore_n, wiS, reS, pnext]; intros; omega)
theorem rs_lstore {q : PI} {σ : PS} {s : Int → Int} {z : PR} (hs : s_lstore q σ = some z) : s_lstore q (wiS s σ) = some (reS s z) := by
  unfold s_lstore pnext at hs
  (repeat' split at hs) <;> first | (cases hs; done) | (cases hs; rfl) | (cases hs; exact if_pos ‹_›) | (cases hs; simp_all [s_lstore, wiS, reS, pnext]; done) | (cases hs; simp_all [s_lstore, wiS, reS, pnext, pup, rup, pzero, pcpy]; done) | (cases hs; simp_all [s_lstore, wiS, reS, pnext]; intros; omega)
theorem rs_astore_n {q : PI} {σ : PS} {s : Int → Int} {z : PR} (hs : s_astore_n q σ = some z) : s_astore_n q (wiS s σ) = some (reS s z) := by
  unfold s_astore_n pnext at hs
  (repeat' split at hs) <;> first | (cases hs; done) | (cases hs; rfl) | (cases hs; exact if_pos ‹_›) | (cases hs; simp_all [s_astore_n, wiS, reS, pnext]; done) | (cases hs; simp_all [s_astore_n, wiS, reS, pnext, pup, rup, pzero, pcpy]; done) | (cases hs; simp_all [s_astore_n, wiS, reS, pnext]; intros; omega)
theorem rs_astore {q : PI} {σ : PS} {s : Int → Int} {z : PR} (hs : s_astore q σ = some z) : s_astore q (wiS s σ) = some (reS s z) := by
  unfold s_astore pnext at hs
  (repeat' split at hs) <;> first | (cases hs; done) | (cases hs; rfl) | (cases hs; exact if_pos ‹_›) | (cases hs; simp_all [s_astore, wiS, reS, pnext]; done) | (cases hs; simp_all [s_astore, wiS, reS, pnext, pup, rup, pzero, pcpy]; done) | (cases hs; simp_all [s_astore, wiS, reS, pnext]; intros; omega)
theorem rs_iinc {q : PI} {σ : PS} {s : Int → Int} {z : PR} (hs : s_iinc q σ = some z) : s_iinc q (wiS s σ) = some (reS s z) := by
  unfold s_iinc pnext at hs
  (repeat' split at hs) <;> first | (cases hs; done) | (cases hs; rfl) | (cases hs; exact if_pos ‹_›) | (cases hs; simp_all [s_iinc, wiS, reS, pnext]; done) | (cases hs; simp_all [s_iinc, wiS, reS, pnext, pup, rup, pzero, pcpy]; done) | (cases hs; simp_all [s_iinc, wiS, reS, pnext]; intros; omega)
theorem rs_iadd {q : PI} {σ : PS} {s : Int → Int} {z : PR} (hs : s_iadd q σ = some z) : s_iadd q (wiS s σ) = some (reS s z) := by
  unfold s_iadd pnext at hs
  (repeat' split at hs) <;> first | (cases hs; done) | (cases hs; rfl) | (cases hs; exact if_pos ‹_›) | (cases hs; simp_all [s_iadd, wiS, reS, pnext]; done) | (cases hs; simp_all [s_iadd, wiS, reS, pnext, pup, rup, pzero, pcpy]; done) | (cases hs; simp_all [s_iadd, wiS, reS, pnext]; intros; omega)
theorem rs_isub {q : PI} {σ : PS} {s : Int → Int} {z : PR} (hs : s_isub q σ = some z) : s_isub q (wiS s σ) = some (reS s z) := by
  unfold s_isub pnext at hs
  (repeat' split at hs) <;> first | (cases hs; done) | (cases hs; rfl) | (cases hs; exact if_pos ‹_›) | (cases hs; simp_all [s_isub, wiS, reS, pnext]; done) | (cases hs; simp_all [s_isub, wiS, reS, pnext, pup, rup, pzero, pcpy]; done) | (cases hs; simp_all [s_isub, wiS, reS, pnext]; intros; omega)
theorem rs_imul {q : PI} {σ : PS} {s : Int → Int} {z : PR} (hs : s_imul q σ = some z) : s_imul q (wiS s σ) = some (reS s z) := by
  unfold s_imul pnext at hs
  (repeat' split at hs) <;> first | (cases hs; done) | (cases hs; rfl) | (cases hs; exact if_pos ‹_›) | (cases hs; simp_all [s_imul, wiS, reS, pnext]; done) | (cases hs; simp_all [s_imul, wiS, reS, pnext, pup, rup, pzero, pcpy]; done) | (cases hs; simp_all [s_imul, wiS, reS, pnext]; intros; omega)
theorem rs_iand {q : PI} {σ : PS} {s : Int → Int} {z : PR} (hs : s_iand q σ = some z) : s_iand q (wiS s σ) = some (reS s z) := by
  unfold s_iand pnext at hs
  (repeat' split at hs) <;> first | (cases hs; done) | (cases hs; rfl) | (cases hs; exact if_pos ‹_›) | (cases hs; simp_all [s_iand, wiS, reS, pnext]; done) | (cases hs; simp_all [s_iand, wiS, reS, pnext, pup, rup, pzero, pcpy]; done) | (cases hs; simp_all [s_iand, wiS, reS, pnext]; intros; omega)
theorem rs_ior {q : PI} {σ : PS} {s : Int → Int} {z : PR} (hs : s_ior q σ = some z) : s_ior q (wiS s σ) = some (reS s z) := by
  unfold s_ior pnext at hs
  (repeat' split at hs) <;> first | (cases hs; done) | (cases hs; rfl) | (cases hs; exact if_pos ‹_›) | (cases hs; simp_all [s_ior, wiS, reS, pnext]; done) | (cases hs; simp_all [s_ior, wiS, reS, pnext, pup, rup, pzero, pcpy]; done) | (cases hs; simp_all [s_ior, wiS, reS, pnext]; intros; omega)
theorem rs_idiv {q : PI} {σ : PS} {s : Int → Int} {z : PR} (hs : s_idiv q σ = some z) : s_idiv q (wiS s σ) = some (reS s z) := by
  unfold s_idiv pnext at hs
  (repeat' split at hs) <;> first | (cases hs; done) | (cases hs; rfl) | (cases hs; exact if_pos ‹_›) | (cases hs; simp_all [s_idiv, wiS, reS, pnext]; done) | (cases hs; simp_all [s_idiv, wiS, reS, pnext, pup, rup, pzero, pcpy]; done) | (cases hs; simp_all [s_idiv, wiS, reS, pnext]; intros; omega)
theorem rs_irem {q : PI} {σ : PS} {s : Int → Int} {z : PR} (hs : s_irem q σ = some z) : s_irem q (wiS s σ) = some (reS s z) := by
  unfold s_irem pnext at hs
  (repeat' split at hs) <;> first | (cases hs; done) | (cases hs; rfl) | (cases hs; exact if_pos ‹_›) | (cases hs; simp_all [s_irem, wiS, reS, pnext]; done) | (cases hs; simp_all [s_irem, wiS, reS, pnext, pup, rup, pzero, pcpy]; done) | (cases hs; simp_all [s_irem, wiS, reS, pnext]; intros; omega)
theorem rs_ishl {q : PI} {σ : PS} {s : Int → Int} {z : PR} (hs : s_ishl q σ = some z) : s_ishl q (wiS s σ) = some (reS s z) := by
  unfold s_ishl pnext at hs
  (repeat' split at hs) <;> first | (cases hs; done) | (cases hs; rfl) | (cases hs; exact if_pos ‹_›) | (cases hs; simp_all [s_ishl, wiS, reS, pnext]; done) | (cases hs; simp_all [s_ishl, wiS, reS, pnext, pup, rup, pzero, pcpy]; done) | (cases hs; simp_all [s_ishl, wiS, reS, pnext]; intros; omega)
theorem rs_ishr {q : PI} {σ : PS} {s : Int → Int} {z : PR} (hs : s_ishr q σ = some z) : s_ishr q (wiS s σ) = some (reS s z) := by
  unfold s_ishr pnext at hs
  (repeat' split at hs) <;> first | (cases hs; done) | (cases hs; rfl) | (cases hs; exact if_pos ‹_›) | (cases hs; simp_all [s_ishr, wiS, reS, pnext]; done) | (cases hs; simp_all [s_ishr, wiS, reS, pnext, pup, rup, pzero, pcpy]; done) | (cases hs; simp_all [s_ishr, wiS, reS, pnext]; intros; omega)
theorem rs_iushr {q : PI} {σ : PS} {s : Int → Int} {z : PR} (hs : s_iushr q σ = some z) : s_iushr q (wiS s σ) = some (reS s z) := by
  unfold s_iushr pnext at hs
  (repeat' split at hs) <;> first | (cases hs; done) | (cases hs; rfl) | (cases hs; exact if_pos ‹_›) | (cases hs; simp_all [s_iushr, wiS, reS, pnext]; done) | (cases hs; simp_all [s_iushr, wiS, reS, pnext, pup, rup, pzero, pcpy]; done) | (cases hs; simp_all [s_iushr, wiS, reS, pnext]; intros; omega)
theorem rs_ladd {q : PI} {σ : PS} {s : Int → Int} {z : PR} (hs : s_ladd q σ = some z) : s_ladd q (wiS s σ) = some (reS s z) := by
  unfold s_ladd pnext at hs
  (repeat' split at hs) <;> first | (cases hs; done) | (cases hs; rfl) | (cases hs; exact if_pos ‹_›) | (cases hs; simp_all [s_ladd, wiS, reS, pnext]; done) | (cases hs; simp_all [s_ladd, wiS, reS, pnext, pup, rup, pzero, pcpy]; done) | (cases hs; simp_all [s_ladd, wiS, reS, pnext]; intros; omega)
theorem rs_lsub {q : PI} {σ : PS} {s : Int → Int} {z : PR} (hs : s_lsub q σ = some z) : s_lsub q (wiS s σ) = some (reS s z) := by
  unfold s_lsub pnext at hs
  (repeat' split at hs) <;> first | (cases hs; done) | (cases hs; rfl) | (cases hs; exact if_pos ‹_›) | (cases hs; simp_all [s_lsub, wiS, reS, pnext]; done) | (cases hs; simp_all [s_lsub, wiS, reS, pnext, pup, rup, pzero, pcpy]; done) | (cases hs; simp_all [s_lsub, wiS, reS, pnext]; intros; omega)
theorem rs_lmul {q : PI} {σ : PS} {s : Int → Int} {z : PR} (hs : s_lmul q σ = some z) : s_lmul q (wiS s σ) = some (reS s z) := by
  unfold s_lmul pnext at hs
  (repeat' split at hs) <;> first | (cases hs; done) | (cases hs; rfl) | (cases hs; exact if_pos ‹_›) | (cases hs; simp_all [s_lmul, wiS, reS, pnext]; done) | (cases hs; simp_all [s_lmul, wiS, reS, pnext, pup, rup, pzero, pcpy]; done) | (cases hs; simp_all [s_lmul, wiS, reS, pnext]; intros; omega)
theorem rs_lor {q : PI} {σ : PS} {s : Int → Int} {z : PR} (hs : s_lor q σ = some z) : s_lor q (wiS s σ) = some (reS s z) := by
  unfold s_lor pnext at hs
  (repeat' split at hs) <;> first | (cases hs; done) | (cases hs; rfl) | (cases hs; exact if_pos ‹_›) | (cases hs; simp_all [s_lor, wiS, reS, pnext]; done) | (cases hs; simp_all [s_lor, wiS, reS, pnext, pup, rup, pzero, pcpy]; done) | (cases hs; simp_all [s_lor, wiS, reS, pnext]; intros; omega)
theorem rs_lshl {q : PI} {σ : PS} {s : Int → Int} {z : PR} (hs : s_lshl q σ = some z) : s_lshl q (wiS s σ) = some (reS s z) := by
  unfold s_lshl pnext at hs
  (repeat' split at hs) <;> first | (cases hs; done) | (cases hs; rfl) | (cases hs; exact if_pos ‹_›) | (cases hs; simp_all [s_lshl, wiS, reS, pnext]; done) | (cases hs; simp_all [s_lshl, wiS, reS, pnext, pup, rup, pzero, pcpy]; done) | (cases hs; simp_all [s_lshl, wiS, reS, pnext]; intros; omega)
theorem rs_lcmp {q : PI} {σ : PS} {s : Int → Int} {z : PR} (hs : s_lcmp q σ = some z) : s_lcmp q (wiS s σ) = some (reS s z) := by
  unfold s_lcmp pnext at hs
  (repeat' split at hs) <;> first | (cases hs; done) | (cases hs; rfl) | (cases hs; exact if_pos ‹_›) | (cases hs; simp_all [s_lcmp, wiS, reS, pnext]; done) | (cases hs; simp_all [s_lcmp, wiS, reS, pnext, pup, rup, pzero, pcpy]; done) | (cases hs; simp_all [s_lcmp, wiS, reS, pnext]; intros; omega)
theorem rs_i2l {q : PI} {σ : PS} {s : Int → Int} {z : PR} (hs : s_i2l q σ = some z) : s_i2l q (wiS s σ) = some (reS s z) := by
  unfold s_i2l pnext at hs
  (repeat' split at hs) <;> first | (cases hs; done) | (cases hs; rfl) | (cases hs; exact if_pos ‹_›) | (cases hs; simp_all [s_i2l, wiS, reS, pnext]; done) | (cases hs; simp_all [s_i2l, wiS, reS, pnext, pup, rup, pzero, pcpy]; done) | (cases hs; simp_all [s_i2l, wiS, reS, pnext]; intros; omega)
theorem rs_l2i {q : PI} {σ : PS} {s : Int → Int} {z : PR} (hs : s_l2i q σ = some z) : s_l2i q (wiS s σ) = some (reS s z) := by
  unfold s_l2i pnext at hs
  (repeat' split at hs) <;> first | (cases hs; done) | (cases hs; rfl) | (cases hs; exact if_pos ‹_›) | (cases hs; simp_all [s_l2i, wiS, reS, pnext]; done) | (cases hs; simp_all [s_l2i, wiS, reS, pnext, pup, rup, pzero, pcpy]; done) | (cases hs; simp_all [s_l2i, wiS, reS, pnext]; intros; omega)
theorem rs_i2b {q : PI} {σ : PS} {s : Int → Int} {z : PR} (hs : s_i2b q σ = some z) : s_i2b q (wiS s σ) = some (reS s z) := by
  unfold s_i2b pnext at hs
  (repeat' split at hs) <;> first | (cases hs; done) | (cases hs; rfl) | (cases hs; exact if_pos ‹_›) | (cases hs; simp_all [s_i2b, wiS, reS, pnext]; done) | (cases hs; simp_all [s_i2b, wiS, reS, pnext, pup, rup, pzero, pcpy]; done) | (cases hs; simp_all [s_i2b, wiS, reS, pnext]; intros; omega)
theorem rs_dup {q : PI} {σ : PS} {s : Int → Int} {z : PR} (hs : s_dup q σ = some z) : s_dup q (wiS s σ) = some (reS s z) := by
  unfold s_dup pnext at hs
  (repeat' split at hs) <;> first | (cases hs; done) | (cases hs; rfl) | (cases hs; exact if_pos ‹_›) | (cases hs; simp_all [s_dup, wiS, reS, pnext]; done) | (cases hs; simp_all [s_dup, wiS, reS, pnext, pup, rup, pzero, pcpy]; done) | (cases hs; simp_all [s_dup, wiS, reS, pnext]; intros; omega)
theorem rs_dup2 {q : PI} {σ : PS} {s : Int → Int} {z : PR} (hs : s_dup2 q σ = some z) : s_dup2 q (wiS s σ) = some (reS s z) := by
  unfold s_dup2 pnext at hs
  (repeat' split at hs) <;> first | (cases hs; done) | (cases hs; rfl) | (cases hs; exact if_pos ‹_›) | (cases hs; simp_all [s_dup2, wiS, reS, pnext]; done) | (cases hs; simp_all [s_dup2, wiS, reS, pnext, pup, rup, pzero, pcpy]; done) | (cases hs; simp_all [s_dup2, wiS, reS, pnext]; intros; omega)
theorem rs_pop {q : PI} {σ : PS} {s : Int → Int} {z : PR} (hs : s_pop q σ = some z) : s_pop q (wiS s σ) = some (reS s z) := by
  unfold s_pop pnext at hs
  (repeat' split at hs) <;> first | (cases hs; done) | (cases hs; rfl) | (cases hs; exact if_pos ‹_›) | (cases hs; simp_all [s_pop, wiS, reS, pnext]; done) | (cases hs; simp_all [s_pop, wiS, reS, pnext, pup, rup, pzero, pcpy]; done) | (cases hs; simp_all [s_pop, wiS, reS, pnext]; intros; omega)
theorem rs_if_eq {q : PI} {σ : PS} {s : Int → Int} {z : PR} (hs : s_if_eq q σ = some z) : s_if_eq q (wiS s σ) = some (reS s z) := by
  unfold s_if_eq pnext at hs
  (repeat' split at hs) <;> first | (cases hs; done) | (cases hs; rfl) | (cases hs; exact if_pos ‹_›) | (cases hs; simp_all [s_if_eq, wiS, reS, pnext]; done) | (cases hs; simp_all [s_if_eq, wiS, reS, pnext, pup, rup, pzero, pcpy]; done) | (cases hs; simp_all [s_if_eq, wiS, reS, pnext]; intros; omega)
theorem rs_if_ne {q : PI} {σ : PS} {s : Int → Int} {z : PR} (hs : s_if_ne q σ = some z) : s_if_ne q (wiS s σ) = some (reS s z) := by
  unfold s_if_ne pnext at hs
  (repeat' split at hs) <;> first | (cases hs; done) | (cases hs; rfl) | (cases hs; exact if_pos ‹_›) | (cases hs; simp_all [s_if_ne, wiS, reS, pnext]; done) | (cases hs; simp_all [s_if_ne, wiS, reS, pnext, pup, rup, pzero, pcpy]; done) | (cases hs; simp_all [s_if_ne, wiS, reS, pnext]; intros; omega)
theorem rs_if_lt {q : PI} {σ : PS} {s : Int → Int} {z : PR} (hs : s_if_lt q σ = some z) : s_if_lt q (wiS s σ) = some (reS s z) := by
  unfold s_if_lt pnext at hs
  (repeat' split at hs) <;> first | (cases hs; done) | (cases hs; rfl) | (cases hs; exact if_pos ‹_›) | (cases hs; simp_all [s_if_lt, wiS, reS, pnext]; done) | (cases hs; simp_all [s_if_lt, wiS, reS, pnext, pup, rup, pzero, pcpy]; done) | (cases hs; simp_all [s_if_lt, wiS, reS, pnext]; intros; omega)
theorem rs_if_ge {q : PI} {σ : PS} {s : Int → Int} {z : PR} (hs : s_if_ge q σ = some z) : s_if_ge q (wiS s σ) = some (reS s z) := by
  unfold s_if_ge pnext at hs
  (repeat' split at hs) <;> first | (cases hs; done) | (cases hs; rfl) | (cases hs; exact if_pos ‹_›) | (cases hs; simp_all [s_if_ge, wiS, reS, pnext]; done) | (cases hs; simp_all [s_if_ge, wiS, reS, pnext, pup, rup, pzero, pcpy]; done) | (cases hs; simp_all [s_if_ge, wiS, reS, pnext]; intros; omega)
theorem rs_if_gt {q : PI} {σ : PS} {s : Int → Int} {z : PR} (hs : s_if_gt q σ = some z) : s_if_gt q (wiS s σ) = some (reS s z) := by
  unfold s_if_gt pnext at hs
  (repeat' split at hs) <;> first | (cases hs; done) | (cases hs; rfl) | (cases hs; exact if_pos ‹_›) | (cases hs; simp_all [s_if_gt, wiS, reS, pnext]; done) | (cases hs; simp_all [s_if_gt, wiS, reS, pnext, pup, rup, pzero, pcpy]; done) | (cases hs; simp_all [s_if_gt, wiS, reS, pnext]; intros; omega)
theorem rs_if_le {q : PI} {σ : PS} {s : Int → Int} {z : PR} (hs : s_if_le q σ = some z) : s_if_le q (wiS s σ) = some (reS s z) := by
  unfold s_if_le pnext at hs
  (repeat' split at hs) <;> first | (cases hs; done) | (cases hs; rfl) | (cases hs; exact if_pos ‹_›) | (cases hs; simp_all [s_if_le, wiS, reS, pnext]; done) | (cases hs; simp_all [s_if_le, wiS, reS, pnext, pup, rup, pzero, pcpy]; done) | (cases hs; simp_all [s_if_le, wiS, reS, pnext]; intros; omega)
theorem rs_icmp_eq {q : PI} {σ : PS} {s : Int → Int} {z : PR} (hs : s_icmp_eq q σ = some z) : s_icmp_eq q (wiS s σ) = some (reS s z) := by
  unfold s_icmp_eq pnext at hs
  (repeat' split at hs) <;> first | (cases hs; done) | (cases hs; rfl) | (cases hs; exact if_pos ‹_›) | (cases hs; simp_all [s_icmp_eq, wiS, reS, pnext]; done) | (cases hs; simp_all [s_icmp_eq, wiS, reS, pnext, pup, rup, pzero, pcpy]; done) | (cases hs; simp_all [s_icmp_eq, wiS, reS, pnext]; intros; omega)
theorem rs_icmp_ne {q : PI} {σ : PS} {s : Int → Int} {z : PR} (hs : s_icmp_ne q σ = some z) : s_icmp_ne q (wiS s σ) = some (reS s z) := by
  unfold s_icmp_ne pnext at hs
  (repeat' split at hs) <;> first | (cases hs; done) | (cases hs; rfl) | (cases hs; exact if_pos ‹_›) | (cases hs; simp_all [s_icmp_ne, wiS, reS, pnext]; done) | (cases hs; simp_all [s_icmp_ne, wiS, reS, pnext, pup, rup, pzero, pcpy]; done) | (cases hs; simp_all [s_icmp_ne, wiS, reS, pnext]; intros; omega)
theorem rs_icmp_lt {q : PI} {σ : PS} {s : Int → Int} {z : PR} (hs : s_icmp_lt q σ = some z) : s_icmp_lt q (wiS s σ) = some (reS s z) := by
  unfold s_icmp_lt pnext at hs
  (repeat' split at hs) <;> first | (cases hs; done) | (cases hs; rfl) | (cases hs; exact if_pos ‹_›) | (cases hs; simp_all [s_icmp_lt, wiS, reS, pnext]; done) | (cases hs; simp_all [s_icmp_lt, wiS, reS, pnext, pup, rup, pzero, pcpy]; done) | (cases hs; simp_all [s_icmp_lt, wiS, reS, pnext]; intros; omega)
theorem rs_icmp_ge {q : PI} {σ : PS} {s : Int → Int} {z : PR} (hs : s_icmp_ge q σ = some z) : s_icmp_ge q (wiS s σ) = some (reS s z) := by
  unfold s_icmp_ge pnext at hs
  (repeat' split at hs) <;> first | (cases hs; done) | (cases hs; rfl) | (cases hs; exact if_pos ‹_›) | (cases hs; simp_all [s_icmp_ge, wiS, reS, pnext]; done) | (cases hs; simp_all [s_icmp_ge, wiS, reS, pnext, pup, rup, pzero, pcpy]; done) | (cases hs; simp_all [s_icmp_ge, wiS, reS, pnext]; intros; omega)
theorem rs_icmp_gt {q : PI} {σ : PS} {s : Int → Int} {z : PR} (hs : s_icmp_gt q σ = some z) : s_icmp_gt q (wiS s σ) = some (reS s z) := by
  unfold s_icmp_gt pnext at hs
  (repeat' split at hs) <;> first | (cases hs; done) | (cases hs; rfl) | (cases hs; exact if_pos ‹_›) | (cases hs; simp_all [s_icmp_gt, wiS, reS, pnext]; done) | (cases hs; simp_all [s_icmp_gt, wiS, reS, pnext, pup, rup, pzero, pcpy]; done) | (cases hs; simp_all [s_icmp_gt, wiS, reS, pnext]; intros; omega)
theorem rs_icmp_le {q : PI} {σ : PS} {s : Int → Int} {z : PR} (hs : s_icmp_le q σ = some z) : s_icmp_le q (wiS s σ) = some (reS s z) := by
  unfold s_icmp_le pnext at hs
  (repeat' split at hs) <;> first | (cases hs; done) | (cases hs; rfl) | (cases hs; exact if_pos ‹_›) | (cases hs; simp_all [s_icmp_le, wiS, reS, pnext]; done) | (cases hs; simp_all [s_icmp_le, wiS, reS, pnext, pup, rup, pzero, pcpy]; done) | (cases hs; simp_all [s_icmp_le, wiS, reS, pnext]; intros; omega)
theorem rs_goto {q : PI} {σ : PS} {s : Int → Int} {z : PR} (hs : s_goto q σ = some z) : s_goto q (wiS s σ) = some (reS s z) := by
  unfold s_goto pnext at hs
  (repeat' split at hs) <;> first | (cases hs; done) | (cases hs; rfl) | (cases hs; exact if_pos ‹_›) | (cases hs; simp_all [s_goto, wiS, reS, pnext]; done) | (cases hs; simp_all [s_goto, wiS, reS, pnext, pup, rup, pzero, pcpy]; done) | (cases hs; simp_all [s_goto, wiS, reS, pnext]; intros; omega)
theorem rs_tswitch {q : PI} {σ : PS} {s : Int → Int} {z : PR} (hs : s_tswitch q σ = some z) : s_tswitch q (wiS s σ) = some (reS s z) := by
  unfold s_tswitch pnext at hs
  (repeat' split at hs) <;> first | (cases hs; done) | (cases hs; rfl) | (cases hs; exact if_pos ‹_›) | (cases hs; simp_all [s_tswitch, wiS, reS, pnext]; done) | (cases hs; simp_all [s_tswitch, wiS, reS, pnext, pup, rup, pzero, pcpy]; done) | (cases hs; simp_all [s_tswitch, wiS, reS, pnext]; intros; omega)
theorem rs_getI {q : PI} {σ : PS} {s : Int → Int} {z : PR} (hs : s_getI q σ = some z) : s_getI q (wiS s σ) = some (reS s z) := by
  unfold s_getI pnext at hs
  (repeat' split at hs) <;> first | (cases hs; done) | (cases hs; rfl) | (cases hs; exact if_pos ‹_›) | (cases hs; simp_all [s_getI, wiS, reS, pnext]; done) | (cases hs; simp_all [s_getI, wiS, reS, pnext, pup, rup, pzero, pcpy]; done) | (cases hs; simp_all [s_getI, wiS, reS, pnext]; intros; omega)
theorem rs_getJ {q : PI} {σ : PS} {s : Int → Int} {z : PR} (hs : s_getJ q σ = some z) : s_getJ q (wiS s σ) = some (reS s z) := by
  unfold s_getJ pnext at hs
  (repeat' split at hs) <;> first | (cases hs; done) | (cases hs; rfl) | (cases hs; exact if_pos ‹_›) | (cases hs; simp_all [s_getJ, wiS, reS, pnext]; done) | (cases hs; simp_all [s_getJ, wiS, reS, pnext, pup, rup, pzero, pcpy]; done) | (cases hs; simp_all [s_getJ, wiS, reS, pnext]; intros; omega)
theorem rs_getR {q : PI} {σ : PS} {s : Int → Int} {z : PR} (hs : s_getR q σ = some z) : s_getR q (wiS s σ) = some (reS s z) := by
  unfold s_getR pnext at hs
  (repeat' split at hs) <;> first | (cases hs; done) | (cases hs; rfl) | (cases hs; exact if_pos ‹_›) | (cases hs; simp_all [s_getR, wiS, reS, pnext]; done) | (cases hs; simp_all [s_getR, wiS, reS, pnext, pup, rup, pzero, pcpy]; done) | (cases hs; simp_all [s_getR, wiS, reS, pnext]; intros; omega)
theorem rs_putI {q : PI} {σ : PS} {s : Int → Int} {z : PR} (hs : s_putI q σ = some z) : s_putI q (wiS s σ) = some (reS s z) := by
  unfold s_putI pnext at hs
  (repeat' split at hs) <;> first | (cases hs; done) | (cases hs; rfl) | (cases hs; exact if_pos ‹_›) | (cases hs; simp_all [s_putI, wiS, reS, pnext]; done) | (cases hs; simp_all [s_putI, wiS, reS, pnext, pup, rup, pzero, pcpy]; done) | (cases hs; simp_all [s_putI, wiS, reS, pnext]; intros; omega)
theorem rs_putZ {q : PI} {σ : PS} {s : Int → Int} {z : PR} (hs : s_putZ q σ = some z) : s_putZ q (wiS s σ) = some (reS s z) := by
  unfold s_putZ pnext at hs
  (repeat' split at hs) <;> first | (cases hs; done) | (cases hs; rfl) | (cases hs; exact if_pos ‹_›) | (cases hs; simp_all [s_putZ, wiS, reS, pnext]; done) | (cases hs; simp_all [s_putZ, wiS, reS, pnext, pup, rup, pzero, pcpy]; done) | (cases hs; simp_all [s_putZ, wiS, reS, pnext]; intros; omega)
theorem rs_putJ {q : PI} {σ : PS} {s : Int → Int} {z : PR} (hs : s_putJ q σ = some z) : s_putJ q (wiS s σ) = some (reS s z) := by
  unfold s_putJ pnext at hs
  (repeat' split at hs) <;> first | (cases hs; done) | (cases hs; rfl) | (cases hs; exact if_pos ‹_›) | (cases hs; simp_all [s_putJ, wiS, reS, pnext]; done) | (cases hs; simp_all [s_putJ, wiS, reS, pnext, pup, rup, pzero, pcpy]; done) | (cases hs; simp_all [s_putJ, wiS, reS, pnext]; intros; omega)
theorem rs_putR {q : PI} {σ : PS} {s : Int → Int} {z : PR} (hs : s_putR q σ = some z) : s_putR q (wiS s σ) = some (reS s z) := by
  unfold s_putR pnext at hs
  (repeat' split at hs) <;> first | (cases hs; done) | (cases hs; rfl) | (cases hs; exact if_pos ‹_›) | (cases hs; simp_all [s_putR, wiS, reS, pnext]; done) | (cases hs; simp_all [s_putR, wiS, reS, pnext, pup, rup, pzero, pcpy]; done) | (cases hs; simp_all [s_putR, wiS, reS, pnext]; intros; omega)
theorem rs_putF {q : PI} {σ : PS} {s : Int → Int} {z : PR} (hs : s_putF q σ = some z) : s_putF q (wiS s σ) = some (reS s z) := by
  unfold s_putF pnext at hs
  (repeat' split at hs) <;> first | (cases hs; done) | (cases hs; rfl) | (cases hs; exact if_pos ‹_›) | (cases hs; simp_all [s_putF, wiS, reS, pnext]; done) | (cases hs; simp_all [s_putF, wiS, reS, pnext, pup, rup, pzero, pcpy]; done) | (cases hs; simp_all [s_putF, wiS, reS, pnext]; intros; omega)
theorem rs_iald {q : PI} {σ : PS} {s : Int → Int} {z : PR} (hs : s_iald q σ = some z) : s_iald q (wiS s σ) = some (reS s z) := by
  unfold s_iald pnext at hs
  (repeat' split at hs) <;> first | (cases hs; done) | (cases hs; rfl) | (cases hs; exact if_pos ‹_›) | (cases hs; simp_all [s_iald, wiS, reS, pnext]; done) | (cases hs; simp_all [s_iald, wiS, reS, pnext, pup, rup, pzero, pcpy]; done) | (cases hs; simp_all [s_iald, wiS, reS, pnext]; intros; omega)
theorem rs_iast {q : PI} {σ : PS} {s : Int → Int} {z : PR} (hs : s_iast q σ = some z) : s_iast q (wiS s σ) = some (reS s z) := by
  unfold s_iast pnext at hs
  (repeat' split at hs) <;> first | (cases hs; done) | (cases hs; rfl) | (cases hs; exact if_pos ‹_›) | (cases hs; simp_all [s_iast, wiS, reS, pnext]; done) | (cases hs; simp_all [s_iast, wiS, reS, pnext, pup, rup, pzero, pcpy]; done) | (cases hs; simp_all [s_iast, wiS, reS, pnext]; intros; omega)
theorem rs_lald {q : PI} {σ : PS} {s : Int → Int} {z : PR} (hs : s_lald q σ = some z) : s_lald q (wiS s σ) = some (reS s z) := by
  unfold s_lald pnext at hs
  (repeat' split at hs) <;> first | (cases hs; done) | (cases hs; rfl) | (cases hs; exact if_pos ‹_›) | (cases hs; simp_all [s_lald, wiS, reS, pnext]; done) | (cases hs; simp_all [s_lald, wiS, reS, pnext, pup, rup, pzero, pcpy]; done) | (cases hs; simp_all [s_lald, wiS, reS, pnext]; intros; omega)
theorem rs_last {q : PI} {σ : PS} {s : Int → Int} {z : PR} (hs : s_last q σ = some z) : s_last q (wiS s σ) = some (reS s z) := by
  unfold s_last pnext at hs
  (repeat' split at hs) <;> first | (cases hs; done) | (cases hs; rfl) | (cases hs; exact if_pos ‹_›) | (cases hs; simp_all [s_last, wiS, reS, pnext]; done) | (cases hs; simp_all [s_last, wiS, reS, pnext, pup, rup, pzero, pcpy]; done) | (cases hs; simp_all [s_last, wiS, reS, pnext]; intros; omega)
theorem rs_bald {q : PI} {σ : PS} {s : Int → Int} {z : PR} (hs : s_bald q σ = some z) : s_bald q (wiS s σ) = some (reS s z) := by
  unfold s_bald pnext at hs
  (repeat' split at hs) <;> first | (cases hs; done) | (cases hs; rfl) | (cases hs; exact if_pos ‹_›) | (cases hs; simp_all [s_bald, wiS, reS, pnext]; done) | (cases hs; simp_all [s_bald, wiS, reS, pnext, pup, rup, pzero, pcpy]; done) | (cases hs; simp_all [s_bald, wiS, reS, pnext]; intros; omega)
theorem rs_bast {q : PI} {σ : PS} {s : Int → Int} {z : PR} (hs : s_bast q σ = some z) : s_bast q (wiS s σ) = some (reS s z) := by
  unfold s_bast pnext at hs
  (repeat' split at hs) <;> first | (cases hs; done) | (cases hs; rfl) | (cases hs; exact if_pos ‹_›) | (cases hs; simp_all [s_bast, wiS, reS, pnext]; done) | (cases hs; simp_all [s_bast, wiS, reS, pnext, pup, rup, pzero, pcpy]; done) | (cases hs; simp_all [s_bast, wiS, reS, pnext]; intros; omega)
theorem rs_zald {q : PI} {σ : PS} {s : Int → Int} {z : PR} (hs : s_zald q σ = some z) : s_zald q (wiS s σ) = some (reS s z) := by
  unfold s_zald pnext at hs
  (repeat' split at hs) <;> first | (cases hs; done) | (cases hs; rfl) | (cases hs; exact if_pos ‹_›) | (cases hs; simp_all [s_zald, wiS, reS, pnext]; done) | (cases hs; simp_all [s_zald, wiS, reS, pnext, pup, rup, pzero, pcpy]; done) | (cases hs; simp_all [s_zald, wiS, reS, pnext]; intros; omega)
theorem rs_zast {q : PI} {σ : PS} {s : Int → Int} {z : PR} (hs : s_zast q σ = some z) : s_zast q (wiS s σ) = some (reS s z) := by
  unfold s_zast pnext at hs
  (repeat' split at hs) <;> first | (cases hs; done) | (cases hs; rfl) | (cases hs; exact if_pos ‹_›) | (cases hs; simp_all [s_zast, wiS, reS, pnext]; done) | (cases hs; simp_all [s_zast, wiS, reS, pnext, pup, rup, pzero, pcpy]; done) | (cases hs; simp_all [s_zast, wiS, reS, pnext]; intros; omega)
theorem rs_aald {q : PI} {σ : PS} {s : Int → Int} {z : PR} (hs : s_aald q σ = some z) : s_aald q (wiS s σ) = some (reS s z) := by
  unfold s_aald pnext at hs
  (repeat' split at hs) <;> first | (cases hs; done) | (cases hs; rfl) | (cases hs; exact if_pos ‹_›) | (cases hs; simp_all [s_aald, wiS, reS, pnext]; done) | (cases hs; simp_all [s_aald, wiS, reS, pnext, pup, rup, pzero, pcpy]; done) | (cases hs; simp_all [s_aald, wiS, reS, pnext]; intros; omega)
theorem rs_aast {q : PI} {σ : PS} {s : Int → Int} {z : PR} (hs : s_aast q σ = some z) : s_aast q (wiS s σ) = some (reS s z) := by
  unfold s_aast pnext at hs
  (repeat' split at hs) <;> first | (cases hs; done) | (cases hs; rfl) | (cases hs; exact if_pos ‹_›) | (cases hs; simp_all [s_aast, wiS, reS, pnext]; done) | (cases hs; simp_all [s_aast, wiS, reS, pnext, pup, rup, pzero, pcpy]; done) | (cases hs; simp_all [s_aast, wiS, reS, pnext]; intros; omega)
theorem rs_alen {q : PI} {σ : PS} {s : Int → Int} {z : PR} (hs : s_alen q σ = some z) : s_alen q (wiS s σ) = some (reS s z) := by
  unfold s_alen pnext at hs
  (repeat' split at hs) <;> first | (cases hs; done) | (cases hs; rfl) | (cases hs; exact if_pos ‹_›) | (cases hs; simp_all [s_alen, wiS, reS, pnext]; done) | (cases hs; simp_all [s_alen, wiS, reS, pnext, pup, rup, pzero, pcpy]; done) | (cases hs; simp_all [s_alen, wiS, reS, pnext]; intros; omega)
theorem rs_newa {q : PI} {σ : PS} {s : Int → Int} {z : PR} (hs : s_newa q σ = some z) : s_newa q (wiS s σ) = some (reS s z) := by
  unfold s_newa pnext at hs
  (repeat' split at hs) <;> first | (cases hs; done) | (cases hs; rfl) | (cases hs; exact if_pos ‹_›) | (cases hs; simp_all [s_newa, wiS, reS, pnext]; done) | (cases hs; simp_all [s_newa, wiS, reS, pnext, pup, rup, pzero, pcpy]; done) | (cases hs; simp_all [s_newa, wiS, reS, pnext]; intros; omega)
theorem rs_newq {q : PI} {σ : PS} {s : Int → Int} {z : PR} (hs : s_newq q σ = some z) : s_newq q (wiS s σ) = some (reS s z) := by
  unfold s_newq pnext at hs
  (repeat' split at hs) <;> first | (cases hs; done) | (cases hs; rfl) | (cases hs; exact if_pos ‹_›) | (cases hs; simp_all [s_newq, wiS, reS, pnext]; done) | (cases hs; simp_all [s_newq, wiS, reS, pnext, pup, rup, pzero, pcpy]; done) | (cases hs; simp_all [s_newq, wiS, reS, pnext]; intros; omega)
theorem rs_new {q : PI} {σ : PS} {s : Int → Int} {z : PR} (hs : s_new q σ = some z) : s_new q (wiS s σ) = some (reS s z) := by
  unfold s_new pnext at hs
  (repeat' split at hs) <;> first | (cases hs; done) | (cases hs; rfl) | (cases hs; exact if_pos ‹_›) | (cases hs; simp_all [s_new, wiS, reS, pnext]; done) | (cases hs; simp_all [s_new, wiS, reS, pnext, pup, rup, pzero, pcpy]; done) | (cases hs; simp_all [s_new, wiS, reS, pnext]; intros; omega)
theorem rs_ivS {q : PI} {σ : PS} {s : Int → Int} {z : PR} (hs : s_ivS q σ = some z) : s_ivS q (wiS s σ) = some (reS s z) := by
  unfold s_ivS at hs
  (repeat' split at hs) <;> first | (cases hs; done) | (cases hs; rfl) | (cases hs; exact if_pos ‹_›) | (cases hs; simp_all [s_ivS, wiS, reS, pnext]; done) | (cases hs; simp_all [s_ivS, wiS, reS, pnext, pup, rup, pzero, pcpy]; done) | (cases hs; simp_all [s_ivS, wiS, reS, pnext]; intros; omega)
theorem rs_ivV {q : PI} {σ : PS} {s : Int → Int} {z : PR} (hs : s_ivV q σ = some z) : s_ivV q (wiS s σ) = some (reS s z) := by
  unfold s_ivV at hs
  (repeat' split at hs) <;> first | (cases hs; done) | (cases hs; rfl) | (cases hs; exact if_pos ‹_›) | (cases hs; simp_all [s_ivV, wiS, reS, pnext]; done) | (cases hs; simp_all [s_ivV, wiS, reS, pnext, pup, rup, pzero, pcpy]; done) | (cases hs; simp_all [s_ivV, wiS, reS, pnext]; intros; omega)
theorem rs_ivI {q : PI} {σ : PS} {s : Int → Int} {z : PR} (hs : s_ivI q σ = some z) : s_ivI q (wiS s σ) = some (reS s z) := by
  unfold s_ivI at hs
  (repeat' split at hs) <;> first | (cases hs; done) | (cases hs; rfl) | (cases hs; exact if_pos ‹_›) | (cases hs; simp_all [s_ivI, wiS, reS, pnext]; done) | (cases hs; simp_all [s_ivI, wiS, reS, pnext, pup, rup, pzero, pcpy]; done) | (cases hs; simp_all [s_ivI, wiS, reS, pnext]; intros; omega)
theorem rs_ivN {q : PI} {σ : PS} {s : Int → Int} {z : PR} (hs : s_ivN q σ = some z) : s_ivN q (wiS s σ) = some (reS s z) := by
  unfold s_ivN at hs
  (repeat' split at hs) <;> first | (cases hs; done) | (cases hs; rfl) | (cases hs; exact if_pos ‹_›) | (cases hs; simp_all [s_ivN, wiS, reS, pnext]; done) | (cases hs; simp_all [s_ivN, wiS, reS, pnext, pup, rup, pzero, pcpy]; done) | (cases hs; simp_all [s_ivN, wiS, reS, pnext]; intros; omega)
theorem rs_oinit {q : PI} {σ : PS} {s : Int → Int} {z : PR} (hs : s_oinit q σ = some z) : s_oinit q (wiS s σ) = some (reS s z) := by
  unfold s_oinit pnext at hs
  (repeat' split at hs) <;> first | (cases hs; done) | (cases hs; rfl) | (cases hs; exact if_pos ‹_›) | (cases hs; simp_all [s_oinit, wiS, reS, pnext]; done) | (cases hs; simp_all [s_oinit, wiS, reS, pnext, pup, rup, pzero, pcpy]; done) | (cases hs; simp_all [s_oinit, wiS, reS, pnext]; intros; omega)
theorem rs_acopy {q : PI} {σ : PS} {s : Int → Int} {z : PR} (hs : s_acopy q σ = some z) : s_acopy q (wiS s σ) = some (reS s z) := by
  unfold s_acopy pnext at hs
  (repeat' split at hs) <;> first | (cases hs; done) | (cases hs; rfl) | (cases hs; exact if_pos ‹_›) | (cases hs; simp_all [s_acopy, wiS, reS, pnext]; done) | (cases hs; simp_all [s_acopy, wiS, reS, pnext, pup, rup, pzero, pcpy]; done) | (cases hs; simp_all [s_acopy, wiS, reS, pnext]; intros; omega)
theorem rs_throw {q : PI} {σ : PS} {s : Int → Int} {z : PR} (hs : s_throw q σ = some z) : s_throw q (wiS s σ) = some (reS s z) := by
  unfold s_throw at hs
  (repeat' split at hs) <;> first | (cases hs; done) | (cases hs; rfl) | (cases hs; exact if_pos ‹_›) | (cases hs; simp_all [s_throw, wiS, reS, pnext]; done) | (cases hs; simp_all [s_throw, wiS, reS, pnext, pup, rup, pzero, pcpy]; done) | (cases hs; simp_all [s_throw, wiS, reS, pnext]; intros; omega)
theorem rs_ldcs {q : PI} {σ : PS} {s : Int → Int} {z : PR} (hs : s_ldcs q σ = some z) : s_ldcs q (wiS s σ) = some (reS s z) := by
  unfold s_ldcs pnext at hs
  (repeat' split at hs) <;> first | (cases hs; done) | (cases hs; rfl) | (cases hs; exact if_pos ‹_›) | (cases hs; simp_all [s_ldcs, wiS, reS, pnext]; done) | (cases hs; simp_all [s_ldcs, wiS, reS, pnext, pup, rup, pzero, pcpy]; done) | (cases hs; simp_all [s_ldcs, wiS, reS, pnext]; intros; omega)
theorem rs_iret {q : PI} {σ : PS} {s : Int → Int} {z : PR} (hs : s_iret q σ = some z) : s_iret q (wiS s σ) = some (reS s z) := by
  unfold s_iret at hs
  (repeat' split at hs) <;> first | (cases hs; done) | (cases hs; rfl) | (cases hs; exact if_pos ‹_›) | (cases hs; simp_all [s_iret, wiS, reS, pnext]; done) | (cases hs; simp_all [s_iret, wiS, reS, pnext, pup, rup, pzero, pcpy]; done) | (cases hs; simp_all [s_iret, wiS, reS, pnext]; intros; omega)
theorem rs_zret {q : PI} {σ : PS} {s : Int → Int} {z : PR} (hs : s_zret q σ = some z) : s_zret q (wiS s σ) = some (reS s z) := by
  unfold s_zret at hs
  (repeat' split at hs) <;> first | (cases hs; done) | (cases hs; rfl) | (cases hs; exact if_pos ‹_›) | (cases hs; simp_all [s_zret, wiS, reS, pnext]; done) | (cases hs; simp_all [s_zret, wiS, reS, pnext, pup, rup, pzero, pcpy]; done) | (cases hs; simp_all [s_zret, wiS, reS, pnext]; intros; omega)
theorem rs_lret {q : PI} {σ : PS} {s : Int → Int} {z : PR} (hs : s_lret q σ = some z) : s_lret q (wiS s σ) = some (reS s z) := by
  unfold s_lret at hs
  (repeat' split at hs) <;> first | (cases hs; done) | (cases hs; rfl) | (cases hs; exact if_pos ‹_›) | (cases hs; simp_all [s_lret, wiS, reS, pnext]; done) | (cases hs; simp_all [s_lret, wiS, reS, pnext, pup, rup, pzero, pcpy]; done) | (cases hs; simp_all [s_lret, wiS, reS, pnext]; intros; omega)
theorem rs_vret {q : PI} {σ : PS} {s : Int → Int} {z : PR} (hs : s_vret q σ = some z) : s_vret q (wiS s σ) = some (reS s z) := by
  unfold s_vret at hs
  (repeat' split at hs) <;> first | (cases hs; done) | (cases hs; rfl) | (cases hs; exact if_pos ‹_›) | (cases hs; simp_all [s_vret, wiS, reS, pnext]; done) | (cases hs; simp_all [s_vret, wiS, reS, pnext, pup, rup, pzero, pcpy]; done) | (cases hs; simp_all [s_vret, wiS, reS, pnext]; intros; omega)
theorem rs_slength {q : PI} {σ : PS} {s : Int → Int} {z : PR} (hs : s_slength q σ = some z) : s_slength q (wiS s σ) = some (reS s z) := by
  unfold s_slength pnext at hs
  (repeat' split at hs) <;> first | (cases hs; done) | (cases hs; rfl) | (cases hs; exact if_pos ‹_›) | (cases hs; simp_all [s_slength, wiS, reS, pnext]; done) | (cases hs; simp_all [s_slength, wiS, reS, pnext, pup, rup, pzero, pcpy]; done) | (cases hs; simp_all [s_slength, wiS, reS, pnext]; intros; omega)
theorem rs_scharAt {q : PI} {σ : PS} {s : Int → Int} {z : PR} (hs : s_scharAt q σ = some z) : s_scharAt q (wiS s σ) = some (reS s z) := by
  unfold s_scharAt pnext at hs
  (repeat' split at hs) <;> first | (cases hs; done) | (cases hs; rfl) | (cases hs; exact if_pos ‹_›) | (cases hs; simp_all [s_scharAt, wiS, reS, pnext]; done) | (cases hs; simp_all [s_scharAt, wiS, reS, pnext, pup, rup, pzero, pcpy]; done) | (cases hs; simp_all [s_scharAt, wiS, reS, pnext]; intros; omega)
theorem rs_mmin {q : PI} {σ : PS} {s : Int → Int} {z : PR} (hs : s_mmin q σ = some z) : s_mmin q (wiS s σ) = some (reS s z) := by
  unfold s_mmin pnext at hs
  (repeat' split at hs) <;> first | (cases hs; done) | (cases hs; rfl) | (cases hs; exact if_pos ‹_›) | (cases hs; simp_all [s_mmin, wiS, reS, pnext]; done) | (cases hs; simp_all [s_mmin, wiS, reS, pnext, pup, rup, pzero, pcpy]; done) | (cases hs; simp_all [s_mmin, wiS, reS, pnext]; intros; omega)
theorem rs_mmax {q : PI} {σ : PS} {s : Int → Int} {z : PR} (hs : s_mmax q σ = some z) : s_mmax q (wiS s σ) = some (reS s z) := by
  unfold s_mmax pnext at hs
  (repeat' split at hs) <;> first | (cases hs; done) | (cases hs; rfl) | (cases hs; exact if_pos ‹_›) | (cases hs; simp_all [s_mmax, wiS, reS, pnext]; done) | (cases hs; simp_all [s_mmax, wiS, reS, pnext, pup, rup, pzero, pcpy]; done) | (cases hs; simp_all [s_mmax, wiS, reS, pnext]; intros; omega)
theorem step_rs {q : PI} {σ : PS} {s : Int → Int} {z : PR} (h5 : q.1 ≠ 85) (h6 : q.1 ≠ 86) (hs : pstep q σ = some z) : pstep q (wiS s σ) = some (reS s z) := by
  obtain ⟨op, q⟩ := q
  match op, h5, h6, hs with
  | 0, _, _, hs => cases hs
  | 1, _, _, hs => exact rs_iconst (q := (1, q)) hs
  | 2, _, _, hs => exact rs_bipush (q := (2, q)) hs
  | 3, _, _, hs => exact rs_sipush (q := (3, q)) hs
  | 4, _, _, hs => exact rs_lconst (q := (4, q)) hs
  | 5, _, _, hs => exact rs_ldci (q := (5, q)) hs
  | 6, _, _, hs => exact rs_iload_n (q := (6, q)) hs
  | 7, _, _, hs => exact rs_iload (q := (7, q)) hs
  | 8, _, _, hs => exact rs_lload_n (q := (8, q)) hs
  | 9, _, _, hs => exact rs_lload (q := (9, q)) hs
  | 10, _, _, hs => exact rs_aload_n (q := (10, q)) hs
  | 11, _, _, hs => exact rs_aload (q := (11, q)) hs
  | 12, _, _, hs => exact rs_istore_n (q := (12, q)) hs
  | 13, _, _, hs => exact rs_istore (q := (13, q)) hs
  | 14, _, _, hs => exact rs_lstore_n (q := (14, q)) hs
  | 15, _, _, hs => exact rs_lstore (q := (15, q)) hs
  | 16, _, _, hs => exact rs_astore_n (q := (16, q)) hs
  | 17, _, _, hs => exact rs_astore (q := (17, q)) hs
  | 18, _, _, hs => exact rs_iinc (q := (18, q)) hs
  | 19, _, _, hs => exact rs_iadd (q := (19, q)) hs
  | 20, _, _, hs => exact rs_isub (q := (20, q)) hs
  | 21, _, _, hs => exact rs_imul (q := (21, q)) hs
  | 22, _, _, hs => exact rs_iand (q := (22, q)) hs
  | 23, _, _, hs => exact rs_ior (q := (23, q)) hs
  | 24, _, _, hs => exact rs_idiv (q := (24, q)) hs
  | 25, _, _, hs => exact rs_irem (q := (25, q)) hs
  | 26, _, _, hs => exact rs_ishl (q := (26, q)) hs
  | 27, _, _, hs => exact rs_ishr (q := (27, q)) hs
  | 28, _, _, hs => exact rs_iushr (q := (28, q)) hs
  | 29, _, _, hs => exact rs_ladd (q := (29, q)) hs
  | 30, _, _, hs => exact rs_lsub (q := (30, q)) hs
  | 31, _, _, hs => exact rs_lmul (q := (31, q)) hs
  | 32, _, _, hs => exact rs_lor (q := (32, q)) hs
  | 33, _, _, hs => exact rs_lshl (q := (33, q)) hs
  | 34, _, _, hs => exact rs_lcmp (q := (34, q)) hs
  | 35, _, _, hs => exact rs_i2l (q := (35, q)) hs
  | 36, _, _, hs => exact rs_l2i (q := (36, q)) hs
  | 37, _, _, hs => exact rs_i2b (q := (37, q)) hs
  | 38, _, _, hs => exact rs_dup (q := (38, q)) hs
  | 39, _, _, hs => exact rs_dup2 (q := (39, q)) hs
  | 40, _, _, hs => exact rs_pop (q := (40, q)) hs
  | 41, _, _, hs => exact rs_if_eq (q := (41, q)) hs
  | 42, _, _, hs => exact rs_if_ne (q := (42, q)) hs
  | 43, _, _, hs => exact rs_if_lt (q := (43, q)) hs
  | 44, _, _, hs => exact rs_if_ge (q := (44, q)) hs
  | 45, _, _, hs => exact rs_if_gt (q := (45, q)) hs
  | 46, _, _, hs => exact rs_if_le (q := (46, q)) hs
  | 47, _, _, hs => exact rs_icmp_eq (q := (47, q)) hs
  | 48, _, _, hs => exact rs_icmp_ne (q := (48, q)) hs
  | 49, _, _, hs => exact rs_icmp_lt (q := (49, q)) hs
  | 50, _, _, hs => exact rs_icmp_ge (q := (50, q)) hs
  | 51, _, _, hs => exact rs_icmp_gt (q := (51, q)) hs
  | 52, _, _, hs => exact rs_icmp_le (q := (52, q)) hs
  | 53, _, _, hs => exact rs_goto (q := (53, q)) hs
  | 54, _, _, hs => exact rs_tswitch (q := (54, q)) hs
  | 55, _, _, hs => exact rs_getI (q := (55, q)) hs
  | 56, _, _, hs => exact rs_getJ (q := (56, q)) hs
  | 57, _, _, hs => exact rs_getR (q := (57, q)) hs
  | 58, _, _, hs => exact rs_putI (q := (58, q)) hs
  | 59, _, _, hs => exact rs_putZ (q := (59, q)) hs
  | 60, _, _, hs => exact rs_putJ (q := (60, q)) hs
  | 61, _, _, hs => exact rs_putR (q := (61, q)) hs
  | 62, _, _, hs => exact rs_putF (q := (62, q)) hs
  | 63, _, _, hs => exact rs_iald (q := (63, q)) hs
  | 64, _, _, hs => exact rs_iast (q := (64, q)) hs
  | 65, _, _, hs => exact rs_lald (q := (65, q)) hs
  | 66, _, _, hs => exact rs_last (q := (66, q)) hs
  | 67, _, _, hs => exact rs_bald (q := (67, q)) hs
  | 68, _, _, hs => exact rs_bast (q := (68, q)) hs
  | 69, _, _, hs => exact rs_zald (q := (69, q)) hs
  | 70, _, _, hs => exact rs_zast (q := (70, q)) hs
  | 71, _, _, hs => exact rs_aald (q := (71, q)) hs
  | 72, _, _, hs => exact rs_aast (q := (72, q)) hs
  | 73, _, _, hs => exact rs_alen (q := (73, q)) hs
  | 74, _, _, hs => exact rs_newa (q := (74, q)) hs
  | 75, _, _, hs => exact rs_newq (q := (75, q)) hs
  | 76, _, _, hs => exact rs_new (q := (76, q)) hs
  | 77, _, _, hs => exact rs_ivS (q := (77, q)) hs
  | 78, _, _, hs => exact rs_ivV (q := (78, q)) hs
  | 79, _, _, hs => exact rs_ivI (q := (79, q)) hs
  | 80, _, _, hs => exact rs_ivN (q := (80, q)) hs
  | 81, _, _, hs => exact rs_oinit (q := (81, q)) hs
  | 82, _, _, hs => exact rs_acopy (q := (82, q)) hs
  | 83, _, _, hs => exact rs_throw (q := (83, q)) hs
  | 84, _, _, hs => exact rs_ldcs (q := (84, q)) hs
  | 85, h5, _, _ => exact absurd rfl h5
  | 86, _, h6, _ => exact absurd rfl h6
  | 87, _, _, hs => exact rs_iret (q := (87, q)) hs
  | 88, _, _, hs => exact rs_zret (q := (88, q)) hs
  | 89, _, _, hs => exact rs_lret (q := (89, q)) hs
  | 90, _, _, hs => exact rs_vret (q := (90, q)) hs
  | 91, _, _, hs => exact rs_slength (q := (91, q)) hs
  | 92, _, _, hs => exact rs_scharAt (q := (92, q)) hs
  | 93, _, _, hs => exact rs_mmin (q := (93, q)) hs
  | 94, _, _, hs => exact rs_mmax (q := (94, q)) hs
  | n + 95, _, _, hs => cases hs
/-- a run that never looks at the script -/
def prunB : Nat → Nat → PS → Option (PY × Nat × PC)
  | 0, _, _ => none
  | f + 1, mi, σ => match pcode mi σ.1 with
    | none => none
    | some q => if q.1 = 85 ∨ q.1 = 86 then none else match pstep q σ with
      | none => none
      | some (Sum.inl σ') => prunB f mi σ'
      | some (Sum.inr (Sum.inl (mj, args, pc', st'))) => if pargs mj args = false then none else match summ mj args σ.2.2.2.1 σ.2.2.2.2.2 with
        | some g => if pini.getD mj 0 = 1 then none else prunB f mi (pc', σ.2.1, st', σ.2.2.2.1, σ.2.2.2.2.1, g, σ.2.2.2.2.2.2)
        | none => match prunB f mj (0, entL args (pnL mj), [], σ.2.2.2.1, σ.2.2.2.2.1, σ.2.2.2.2.2) with
          | none => none
          | some (lay', nx', h') => prunB f mi (pc', σ.2.1, st', lay', nx', h')
      | some (Sum.inr (Sum.inr (Sum.inl none))) => some (σ.2.2.2.1, σ.2.2.2.2.1, σ.2.2.2.2.2)
      | some (Sum.inr (Sum.inr _)) => none
/-- the same, to a place of the method itself -/
def stepsB : Nat → Nat → Nat → Nat → PS → Option PS
  | 0, _, _, _, _ => none
  | f + 1, g, mi, e, σ => if σ.1 = e then some σ else match pcode mi σ.1 with
    | none => none
    | some q => if q.1 = 85 ∨ q.1 = 86 then none else match pstep q σ with
      | none => none
      | some (Sum.inl σ') => stepsB f g mi e σ'
      | some (Sum.inr (Sum.inl (mj, args, pc', st'))) => if pargs mj args = false then none else match prunB g mj (0, entL args (pnL mj), [], σ.2.2.2.1, σ.2.2.2.2.1, σ.2.2.2.2.2) with
        | none => none
        | some (lay', nx', h') => stepsB f g mi e (pc', σ.2.1, st', lay', nx', h')
      | some (Sum.inr (Sum.inr _)) => none
/-- one step of a run, and the rest -/
theorem prun_next {f mi : Nat} {σ σ' : PS} {q : PI} (hq : pcode mi σ.1 = some q) (hs : pstep q σ = some (Sum.inl σ')) : prun (f + 1) mi σ = prun f mi σ' := by rw [prun, hq]; dsimp only; rw [hs]
theorem prun_call {f mi mj : Nat} {args st' : List PV} {pc' : Nat} {lay' : PY} {nx' : Nat} {h' : PC} {σ : PS} {q : PI} (hq : pcode mi σ.1 = some q) (hs : pstep q σ = some (Sum.inr (Sum.inl (mj, args, pc', st')))) (ha : ¬ pargs mj args = false) (hr : prun f mj (0, entL args (pnL mj), [], σ.2.2.2.1, σ.2.2.2.2.1, σ.2.2.2.2.2) = some (Sum.inl none, lay', nx', h')) : prun (f + 1) mi σ = prun f mi (pc', σ.2.1, st', lay', nx', h') := by
  rw [prun, hq]; dsimp only; rw [hs]; dsimp only; rw [if_neg ha, hr]; dsimp only; rw [if_neg (fun z => z.2 rfl)]; rfl
theorem prunB_s (s : Int → Int) : ∀ (f mi : Nat) (σ : PS) (lay' : PY) (nx' : Nat) (h' : PC), prunB f mi σ = some (lay', nx', h') → ∃ g, prun g mi (wiS s σ) = some (Sum.inl none, lay', nx', (h'.1, h'.2.1, s)) := by
  intro f
  induction f with
  | zero => intro mi σ lay' nx' h' h; cases h
  | succ f ih =>
    intro mi σ lay' nx' h' h
    unfold prunB at h
    cases hq : pcode mi σ.1 with
    | none => rw [hq] at h; cases h
    | some q =>
      rw [hq] at h
      dsimp only at h
      by_cases h8 : q.1 = 85 ∨ q.1 = 86
      · rw [if_pos h8] at h; cases h
      rw [if_neg h8] at h
      cases hs : pstep q σ with
      | none => rw [hs] at h; cases h
      | some z =>
        rw [hs] at h
        have hs2 := step_rs (s := s) (fun e => h8 (Or.inl e)) (fun e => h8 (Or.inr e)) hs
        have hq2 : pcode mi (wiS s σ).1 = some q := hq
        rcases z with σ' | ⟨mj, args, pc', st'⟩ | v | e
        · obtain ⟨g, hg⟩ := ih _ _ _ _ _ h
          exact ⟨g + 1, by rw [prun_next hq2 hs2]; exact hg⟩
        · dsimp only at h
          by_cases ha : pargs mj args = false
          · rw [if_pos ha] at h; cases h
          · rw [if_neg ha] at h
            cases hsm : summ mj args σ.2.2.2.1 σ.2.2.2.2.2 with
            | some hg =>
              rw [hsm] at h
              dsimp only at h
              by_cases hp : pini.getD mj 0 = 1
              · rw [if_pos hp] at h; cases h
              rw [if_neg hp] at h
              obtain ⟨g, hg2⟩ := ih _ _ _ _ _ h
              have hw := (summ_ok (nx := σ.2.2.2.2.1) (s := s) (Q := fun o1 l1 n1 h1 => o1 = Sum.inl none ∧ l1 = σ.2.2.2.1 ∧ n1 = σ.2.2.2.2.1 ∧ h1 = (hg, σ.2.2.2.2.2.2.1, s)) hsm).mpr ⟨rfl, rfl, rfl, rfl⟩
              obtain ⟨f2, o1, l1, n1, h1, hr, rfl, rfl, rfl, rfl⟩ := hw
              refine ⟨(f2 + g) + 1, ?_⟩
              rw [prun_call hq2 hs2 ha (prun_le _ _ _ _ _ hr (by omega))]
              exact prun_le _ _ _ _ _ hg2 (by omega)
            | none =>
              rw [hsm] at h
              dsimp only at h
              cases hr : prunB f mj (0, entL args (pnL mj), [], σ.2.2.2.1, σ.2.2.2.2.1, σ.2.2.2.2.2) with
              | none => rw [hr] at h; cases h
              | some w =>
                obtain ⟨lay2, nx2, h2⟩ := w
                rw [hr] at h
                obtain ⟨g1, h3⟩ := ih _ _ _ _ _ hr
                obtain ⟨g2, h4⟩ := ih _ _ _ _ _ h
                refine ⟨(g1 + g2) + 1, ?_⟩
                rw [prun_call hq2 hs2 ha (prun_le _ _ _ _ _ h3 (by omega))]
                exact prun_le _ _ _ _ _ h4 (by omega)
        · rcases v with _ | v
          · cases h
            refine ⟨1, ?_⟩
            rw [prun, hq2]
            dsimp only
            rw [hs2]
            rfl
          · cases h
        · cases h
theorem stepsB_s (s : Int → Int) (k : Nat) : ∀ (f mi e : Nat) (σ σ2 : PS), stepsB f k mi e σ = some σ2 → ∀ (g : Nat) (R : PO × PY × Nat × PC), prun g mi (wiS s σ2) = some R → ∃ g2, prun g2 mi (wiS s σ) = some R := by
  intro f
  induction f with
  | zero => intro mi e σ σ2 h; cases h
  | succ f ih =>
    intro mi e σ σ2 h g R hR
    unfold stepsB at h
    by_cases he : σ.1 = e
    · rw [if_pos he] at h
      cases h
      exact ⟨g, hR⟩
    rw [if_neg he] at h
    cases hq : pcode mi σ.1 with
    | none => rw [hq] at h; cases h
    | some q =>
      rw [hq] at h
      dsimp only at h
      by_cases h8 : q.1 = 85 ∨ q.1 = 86
      · rw [if_pos h8] at h; cases h
      rw [if_neg h8] at h
      cases hs : pstep q σ with
      | none => rw [hs] at h; cases h
      | some z =>
        rw [hs] at h
        have hs2 := step_rs (s := s) (fun e => h8 (Or.inl e)) (fun e => h8 (Or.inr e)) hs
        have hq2 : pcode mi (wiS s σ).1 = some q := hq
        rcases z with σ' | ⟨mj, args, pc', st'⟩ | v | ex
        · obtain ⟨g1, hg⟩ := ih _ _ _ _ h _ _ hR
          exact ⟨g1 + 1, by rw [prun_next hq2 hs2]; exact hg⟩
        · dsimp only at h
          by_cases ha : pargs mj args = false
          · rw [if_pos ha] at h; cases h
          · rw [if_neg ha] at h
            cases hr : prunB k mj (0, entL args (pnL mj), [], σ.2.2.2.1, σ.2.2.2.2.1, σ.2.2.2.2.2) with
            | none => rw [hr] at h; cases h
            | some w =>
              obtain ⟨lay2, nx2, h2⟩ := w
              rw [hr] at h
              obtain ⟨g1, h3⟩ := prunB_s s _ _ _ _ _ _ hr
              obtain ⟨g2, h4⟩ := ih _ _ _ _ h _ _ hR
              refine ⟨(g1 + g2) + 1, ?_⟩
              rw [prun_call hq2 hs2 ha (prun_le _ _ _ _ _ h3 (by omega))]
              exact prun_le _ _ _ _ _ h4 (by omega)
        · cases h
        · cases h
