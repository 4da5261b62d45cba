section WO
variable {mi pc a b9 c9 : Nat} {v : Int} {L L' : PL} {st : List PV} {lay : PY} {nx : Nat} {h : PC} {Q : PO → PY → Nat → PC → Prop}

theorem o_iconst  (hq : pcode mi pc = some (1, a, b9, c9, v)) : Wp mi pc L (st) lay nx h Q ↔ Wp mi (pc + 1) L (pI v :: st) lay nx h Q := Wp.next hq rfl
theorem o_bipush  (hq : pcode mi pc = some (2, a, b9, c9, v)) : Wp mi pc L (st) lay nx h Q ↔ Wp mi (pc + 2) L (pI v :: st) lay nx h Q := Wp.next hq rfl
theorem o_sipush  (hq : pcode mi pc = some (3, a, b9, c9, v)) : Wp mi pc L (st) lay nx h Q ↔ Wp mi (pc + 3) L (pI v :: st) lay nx h Q := Wp.next hq rfl
theorem o_lconst  (hq : pcode mi pc = some (4, a, b9, c9, v)) : Wp mi pc L (st) lay nx h Q ↔ Wp mi (pc + 1) L (pJ v :: st) lay nx h Q := Wp.next hq rfl
theorem o_ldci  (hq : pcode mi pc = some (5, a, b9, c9, v)) : Wp mi pc L (st) lay nx h Q ↔ Wp mi (pc + 3) L (pI v :: st) lay nx h Q := Wp.next hq rfl
theorem o_iload_n {x : Int} (hq : pcode mi pc = some (6, a, b9, c9, v)) (hg : getL L a = some (pI x)) : Wp mi pc L (st) lay nx h Q ↔ Wp mi (pc + 1) L (pI x :: st) lay nx h Q := Wp.next hq (by show s_iload_n (6, a, b9, c9, v) (pc, L, st, lay, nx, h) = _; simp only [s_iload_n, hg]; rfl)
theorem o_iload {x : Int} (hq : pcode mi pc = some (7, a, b9, c9, v)) (hg : getL L a = some (pI x)) : Wp mi pc L (st) lay nx h Q ↔ Wp mi (pc + 2) L (pI x :: st) lay nx h Q := Wp.next hq (by show s_iload (7, a, b9, c9, v) (pc, L, st, lay, nx, h) = _; simp only [s_iload, hg]; rfl)
theorem o_lload_n {x : Int} (hq : pcode mi pc = some (8, a, b9, c9, v)) (hg : getL L a = some (pJ x)) : Wp mi pc L (st) lay nx h Q ↔ Wp mi (pc + 1) L (pJ x :: st) lay nx h Q := Wp.next hq (by show s_lload_n (8, a, b9, c9, v) (pc, L, st, lay, nx, h) = _; simp only [s_lload_n, hg]; rfl)
theorem o_lload {x : Int} (hq : pcode mi pc = some (9, a, b9, c9, v)) (hg : getL L a = some (pJ x)) : Wp mi pc L (st) lay nx h Q ↔ Wp mi (pc + 2) L (pJ x :: st) lay nx h Q := Wp.next hq (by show s_lload (9, a, b9, c9, v) (pc, L, st, lay, nx, h) = _; simp only [s_lload, hg]; rfl)
theorem o_aload_n {x : Int} (hq : pcode mi pc = some (10, a, b9, c9, v)) (hg : getL L a = some (pR x)) : Wp mi pc L (st) lay nx h Q ↔ Wp mi (pc + 1) L (pR x :: st) lay nx h Q := Wp.next hq (by show s_aload_n (10, a, b9, c9, v) (pc, L, st, lay, nx, h) = _; simp only [s_aload_n, hg]; rfl)
theorem o_aload {x : Int} (hq : pcode mi pc = some (11, a, b9, c9, v)) (hg : getL L a = some (pR x)) : Wp mi pc L (st) lay nx h Q ↔ Wp mi (pc + 2) L (pR x :: st) lay nx h Q := Wp.next hq (by show s_aload (11, a, b9, c9, v) (pc, L, st, lay, nx, h) = _; simp only [s_aload, hg]; rfl)
theorem o_istore_n {x : Int} (hq : pcode mi pc = some (12, a, b9, c9, v)) (hL : setQ (12, a, b9, c9, v) L (pI x) = L') : Wp mi pc L (pI x :: st) lay nx h Q ↔ Wp mi (pc + 1) L' (st) lay nx h Q := Wp.next hq (by rw [← hL]; rfl)
theorem o_istore {x : Int} (hq : pcode mi pc = some (13, a, b9, c9, v)) (hL : setQ (13, a, b9, c9, v) L (pI x) = L') : Wp mi pc L (pI x :: st) lay nx h Q ↔ Wp mi (pc + 2) L' (st) lay nx h Q := Wp.next hq (by rw [← hL]; rfl)
theorem o_astore_n {x : Int} (hq : pcode mi pc = some (16, a, b9, c9, v)) (hL : setQ (16, a, b9, c9, v) L (pR x) = L') : Wp mi pc L (pR x :: st) lay nx h Q ↔ Wp mi (pc + 1) L' (st) lay nx h Q := Wp.next hq (by rw [← hL]; rfl)
theorem o_astore {x : Int} (hq : pcode mi pc = some (17, a, b9, c9, v)) (hL : setQ (17, a, b9, c9, v) L (pR x) = L') : Wp mi pc L (pR x :: st) lay nx h Q ↔ Wp mi (pc + 2) L' (st) lay nx h Q := Wp.next hq (by rw [← hL]; rfl)
theorem o_lstore_n {x : Int} (hq : pcode mi pc = some (14, a, b9, c9, v)) (hL : setJ L a (pJ x) = L') : Wp mi pc L (pJ x :: st) lay nx h Q ↔ Wp mi (pc + 1) L' (st) lay nx h Q := Wp.next hq (by rw [← hL]; rfl)
theorem o_lstore {x : Int} (hq : pcode mi pc = some (15, a, b9, c9, v)) (hL : setJ L a (pJ x) = L') : Wp mi pc L (pJ x :: st) lay nx h Q ↔ Wp mi (pc + 2) L' (st) lay nx h Q := Wp.next hq (by rw [← hL]; rfl)
theorem o_iinc {x : Int} (hq : pcode mi pc = some (18, a, b9, c9, v)) (hg : getL L a = some (pI x)) (hL : setQ (18, a, b9, c9, v) L (pI (w32 (x + v))) = L') : Wp mi pc L (st) lay nx h Q ↔ Wp mi (pc + 3) L' (st) lay nx h Q := Wp.next hq (by show s_iinc (18, a, b9, c9, v) (pc, L, st, lay, nx, h) = _; simp only [s_iinc, hg, hL]; rfl)
theorem o_iadd {x y : Int} (hq : pcode mi pc = some (19, a, b9, c9, v)) : Wp mi pc L (pI y :: pI x :: st) lay nx h Q ↔ Wp mi (pc + 1) L (pI (w32 (x + y)) :: st) lay nx h Q := Wp.next hq rfl
theorem o_isub {x y : Int} (hq : pcode mi pc = some (20, a, b9, c9, v)) : Wp mi pc L (pI y :: pI x :: st) lay nx h Q ↔ Wp mi (pc + 1) L (pI (w32 (x - y)) :: st) lay nx h Q := Wp.next hq rfl
theorem o_imul {x y : Int} (hq : pcode mi pc = some (21, a, b9, c9, v)) : Wp mi pc L (pI y :: pI x :: st) lay nx h Q ↔ Wp mi (pc + 1) L (pI (w32 (x * y)) :: st) lay nx h Q := Wp.next hq rfl
theorem o_iand {x y : Int} (hq : pcode mi pc = some (22, a, b9, c9, v)) : Wp mi pc L (pI y :: pI x :: st) lay nx h Q ↔ Wp mi (pc + 1) L (pI (pand x y) :: st) lay nx h Q := Wp.next hq rfl
theorem o_ior {x y : Int} (hq : pcode mi pc = some (23, a, b9, c9, v)) : Wp mi pc L (pI y :: pI x :: st) lay nx h Q ↔ Wp mi (pc + 1) L (pI (por x y) :: st) lay nx h Q := Wp.next hq rfl
theorem o_ishl {x y : Int} (hq : pcode mi pc = some (26, a, b9, c9, v)) : Wp mi pc L (pI y :: pI x :: st) lay nx h Q ↔ Wp mi (pc + 1) L (pI (pshl x y) :: st) lay nx h Q := Wp.next hq rfl
theorem o_ishr {x y : Int} (hq : pcode mi pc = some (27, a, b9, c9, v)) : Wp mi pc L (pI y :: pI x :: st) lay nx h Q ↔ Wp mi (pc + 1) L (pI (pshr x y) :: st) lay nx h Q := Wp.next hq rfl
theorem o_iushr {x y : Int} (hq : pcode mi pc = some (28, a, b9, c9, v)) : Wp mi pc L (pI y :: pI x :: st) lay nx h Q ↔ Wp mi (pc + 1) L (pI (pushr x y) :: st) lay nx h Q := Wp.next hq rfl
theorem o_idiv {x y : Int} (hq : pcode mi pc = some (24, a, b9, c9, v)) (h1 : y ≠ 0) : Wp mi pc L (pI y :: pI x :: st) lay nx h Q ↔ Wp mi (pc + 1) L (pI (pdiv x y) :: st) lay nx h Q := Wp.next hq (if_pos h1)
theorem o_irem {x y : Int} (hq : pcode mi pc = some (25, a, b9, c9, v)) (h1 : y ≠ 0) : Wp mi pc L (pI y :: pI x :: st) lay nx h Q ↔ Wp mi (pc + 1) L (pI (prem x y) :: st) lay nx h Q := Wp.next hq (if_pos h1)
theorem o_ladd {x y : Int} (hq : pcode mi pc = some (29, a, b9, c9, v)) : Wp mi pc L (pJ y :: pJ x :: st) lay nx h Q ↔ Wp mi (pc + 1) L (pJ (w64 (x + y)) :: st) lay nx h Q := Wp.next hq rfl
theorem o_lsub {x y : Int} (hq : pcode mi pc = some (30, a, b9, c9, v)) : Wp mi pc L (pJ y :: pJ x :: st) lay nx h Q ↔ Wp mi (pc + 1) L (pJ (w64 (x - y)) :: st) lay nx h Q := Wp.next hq rfl
theorem o_lmul {x y : Int} (hq : pcode mi pc = some (31, a, b9, c9, v)) : Wp mi pc L (pJ y :: pJ x :: st) lay nx h Q ↔ Wp mi (pc + 1) L (pJ (w64 (x * y)) :: st) lay nx h Q := Wp.next hq rfl
theorem o_lor {x y : Int} (hq : pcode mi pc = some (32, a, b9, c9, v)) : Wp mi pc L (pJ y :: pJ x :: st) lay nx h Q ↔ Wp mi (pc + 1) L (pJ (plor x y) :: st) lay nx h Q := Wp.next hq rfl
theorem o_lshl {x y : Int} (hq : pcode mi pc = some (33, a, b9, c9, v)) : Wp mi pc L (pI y :: pJ x :: st) lay nx h Q ↔ Wp mi (pc + 1) L (pJ (plshl x y) :: st) lay nx h Q := Wp.next hq rfl
theorem o_lcmp {x y : Int} (hq : pcode mi pc = some (34, a, b9, c9, v)) : Wp mi pc L (pJ y :: pJ x :: st) lay nx h Q ↔ Wp mi (pc + 1) L (pI (plcmp x y) :: st) lay nx h Q := Wp.next hq rfl
theorem o_i2l {x : Int} (hq : pcode mi pc = some (35, a, b9, c9, v)) : Wp mi pc L (pI x :: st) lay nx h Q ↔ Wp mi (pc + 1) L (pJ x :: st) lay nx h Q := Wp.next hq rfl
theorem o_l2i {x : Int} (hq : pcode mi pc = some (36, a, b9, c9, v)) : Wp mi pc L (pJ x :: st) lay nx h Q ↔ Wp mi (pc + 1) L (pI (w32 x) :: st) lay nx h Q := Wp.next hq rfl
theorem o_i2b {x : Int} (hq : pcode mi pc = some (37, a, b9, c9, v)) : Wp mi pc L (pI x :: st) lay nx h Q ↔ Wp mi (pc + 1) L (pI (w8 x) :: st) lay nx h Q := Wp.next hq rfl
theorem o_dup {p : PV} (hq : pcode mi pc = some (38, a, b9, c9, v)) (h1 : pcat p = 1) : Wp mi pc L (p :: st) lay nx h Q ↔ Wp mi (pc + 1) L (p :: p :: st) lay nx h Q := Wp.next hq (if_pos h1)
theorem o_dup2 {p p2 : PV} (hq : pcode mi pc = some (39, a, b9, c9, v)) (h1 : pcat p = 1 ∧ pcat p2 = 1) : Wp mi pc L (p :: p2 :: st) lay nx h Q ↔ Wp mi (pc + 1) L (p :: p2 :: p :: p2 :: st) lay nx h Q := Wp.next hq (if_pos h1)
theorem o_pop {p : PV} (hq : pcode mi pc = some (40, a, b9, c9, v)) (h1 : pcat p = 1) : Wp mi pc L (p :: st) lay nx h Q ↔ Wp mi (pc + 1) L (st) lay nx h Q := Wp.next hq (if_pos h1)
theorem o_if_eq {x : Int} (hq : pcode mi pc = some (41, a, b9, c9, v)) : Wp mi pc L (pI x :: st) lay nx h Q ↔ (if x = 0 then Wp mi a L st lay nx h Q else Wp mi (pc + 3) L st lay nx h Q) := by
  by_cases hc : x = 0
  · rw [if_pos hc]; exact Wp.next hq (if_pos hc)
  · rw [if_neg hc]; exact Wp.next hq (if_neg hc)
theorem o_if_ne {x : Int} (hq : pcode mi pc = some (42, a, b9, c9, v)) : Wp mi pc L (pI x :: st) lay nx h Q ↔ (if x ≠ 0 then Wp mi a L st lay nx h Q else Wp mi (pc + 3) L st lay nx h Q) := by
  by_cases hc : x ≠ 0
  · rw [if_pos hc]; exact Wp.next hq (if_pos hc)
  · rw [if_neg hc]; exact Wp.next hq (if_neg hc)
theorem o_if_lt {x : Int} (hq : pcode mi pc = some (43, a, b9, c9, v)) : Wp mi pc L (pI x :: st) lay nx h Q ↔ (if x < 0 then Wp mi a L st lay nx h Q else Wp mi (pc + 3) L st lay nx h Q) := by
  by_cases hc : x < 0
  · rw [if_pos hc]; exact Wp.next hq (if_pos hc)
  · rw [if_neg hc]; exact Wp.next hq (if_neg hc)
theorem o_if_ge {x : Int} (hq : pcode mi pc = some (44, a, b9, c9, v)) : Wp mi pc L (pI x :: st) lay nx h Q ↔ (if 0 ≤ x then Wp mi a L st lay nx h Q else Wp mi (pc + 3) L st lay nx h Q) := by
  by_cases hc : 0 ≤ x
  · rw [if_pos hc]; exact Wp.next hq (if_pos hc)
  · rw [if_neg hc]; exact Wp.next hq (if_neg hc)
theorem o_if_gt {x : Int} (hq : pcode mi pc = some (45, a, b9, c9, v)) : Wp mi pc L (pI x :: st) lay nx h Q ↔ (if 0 < x then Wp mi a L st lay nx h Q else Wp mi (pc + 3) L st lay nx h Q) := by
  by_cases hc : 0 < x
  · rw [if_pos hc]; exact Wp.next hq (if_pos hc)
  · rw [if_neg hc]; exact Wp.next hq (if_neg hc)
theorem o_if_le {x : Int} (hq : pcode mi pc = some (46, a, b9, c9, v)) : Wp mi pc L (pI x :: st) lay nx h Q ↔ (if x ≤ 0 then Wp mi a L st lay nx h Q else Wp mi (pc + 3) L st lay nx h Q) := by
  by_cases hc : x ≤ 0
  · rw [if_pos hc]; exact Wp.next hq (if_pos hc)
  · rw [if_neg hc]; exact Wp.next hq (if_neg hc)
theorem o_icmp_eq {x y : Int} (hq : pcode mi pc = some (47, a, b9, c9, v)) : Wp mi pc L (pI y :: pI x :: st) lay nx h Q ↔ (if x = y then Wp mi a L st lay nx h Q else Wp mi (pc + 3) L st lay nx h Q) := by
  by_cases hc : x = y
  · rw [if_pos hc]; exact Wp.next hq (if_pos hc)
  · rw [if_neg hc]; exact Wp.next hq (if_neg hc)
theorem o_icmp_ne {x y : Int} (hq : pcode mi pc = some (48, a, b9, c9, v)) : Wp mi pc L (pI y :: pI x :: st) lay nx h Q ↔ (if x ≠ y then Wp mi a L st lay nx h Q else Wp mi (pc + 3) L st lay nx h Q) := by
  by_cases hc : x ≠ y
  · rw [if_pos hc]; exact Wp.next hq (if_pos hc)
  · rw [if_neg hc]; exact Wp.next hq (if_neg hc)
theorem o_icmp_lt {x y : Int} (hq : pcode mi pc = some (49, a, b9, c9, v)) : Wp mi pc L (pI y :: pI x :: st) lay nx h Q ↔ (if x < y then Wp mi a L st lay nx h Q else Wp mi (pc + 3) L st lay nx h Q) := by
  by_cases hc : x < y
  · rw [if_pos hc]; exact Wp.next hq (if_pos hc)
  · rw [if_neg hc]; exact Wp.next hq (if_neg hc)
theorem o_icmp_ge {x y : Int} (hq : pcode mi pc = some (50, a, b9, c9, v)) : Wp mi pc L (pI y :: pI x :: st) lay nx h Q ↔ (if y ≤ x then Wp mi a L st lay nx h Q else Wp mi (pc + 3) L st lay nx h Q) := by
  by_cases hc : y ≤ x
  · rw [if_pos hc]; exact Wp.next hq (if_pos hc)
  · rw [if_neg hc]; exact Wp.next hq (if_neg hc)
theorem o_icmp_gt {x y : Int} (hq : pcode mi pc = some (51, a, b9, c9, v)) : Wp mi pc L (pI y :: pI x :: st) lay nx h Q ↔ (if y < x then Wp mi a L st lay nx h Q else Wp mi (pc + 3) L st lay nx h Q) := by
  by_cases hc : y < x
  · rw [if_pos hc]; exact Wp.next hq (if_pos hc)
  · rw [if_neg hc]; exact Wp.next hq (if_neg hc)
theorem o_icmp_le {x y : Int} (hq : pcode mi pc = some (52, a, b9, c9, v)) : Wp mi pc L (pI y :: pI x :: st) lay nx h Q ↔ (if x ≤ y then Wp mi a L st lay nx h Q else Wp mi (pc + 3) L st lay nx h Q) := by
  by_cases hc : x ≤ y
  · rw [if_pos hc]; exact Wp.next hq (if_pos hc)
  · rw [if_neg hc]; exact Wp.next hq (if_neg hc)
theorem o_goto  (hq : pcode mi pc = some (53, a, b9, c9, v)) : Wp mi pc L (st) lay nx h Q ↔ Wp mi a L (st) lay nx h Q := Wp.next hq rfl
theorem o_tsw {x lo hi : Int} {d t : Nat} {ts : List Nat} (hq : pcode mi pc = some (54, a, b9, c9, v)) (hw : pswt[a]? = some (lo, hi, d, ts)) (h1 : ¬ (x < lo ∨ hi < x)) (h2 : ts[(x - lo).toNat]? = some t) : Wp mi pc L (pI x :: st) lay nx h Q ↔ Wp mi t L st lay nx h Q := Wp.next hq (by
  show s_tswitch (54, a, b9, c9, v) (pc, L, Sum.inl x :: st, lay, nx, h) = _
  simp only [s_tswitch, hw, if_neg h1, h2]
  rfl)
theorem o_tswd {x lo hi : Int} {d : Nat} {ts : List Nat} (hq : pcode mi pc = some (54, a, b9, c9, v)) (hw : pswt[a]? = some (lo, hi, d, ts)) (h1 : x < lo ∨ hi < x) : Wp mi pc L (pI x :: st) lay nx h Q ↔ Wp mi d L st lay nx h Q := Wp.next hq (by
  show s_tswitch (54, a, b9, c9, v) (pc, L, Sum.inl x :: st, lay, nx, h) = _
  simp only [s_tswitch, hw, if_pos h1]
  rfl)
theorem o_getI {o : Int} (hq : pcode mi pc = some (55, a, b9, c9, v)) (h0 : 0 < o) (hk : kd lay o = (0, b9)) : Wp mi pc L (pR o :: st) lay nx h Q ↔ Wp mi (pc + 3) L (pI (h.1 o c9) :: st) lay nx h Q := Wp.next hq (if_pos ⟨h0, hk⟩)
theorem o_getJ {o : Int} (hq : pcode mi pc = some (56, a, b9, c9, v)) (h0 : 0 < o) (hk : kd lay o = (0, b9)) : Wp mi pc L (pR o :: st) lay nx h Q ↔ Wp mi (pc + 3) L (pJ (h.1 o c9) :: st) lay nx h Q := Wp.next hq (if_pos ⟨h0, hk⟩)
theorem o_getR {o r9 : Int} (hq : pcode mi pc = some (57, a, b9, c9, v)) (h0 : 0 < o) (hk : kd lay o = (0, b9)) (hr : h.2.1 o c9 = r9) (h1 : 0 < r9) : Wp mi pc L (pR o :: st) lay nx h Q ↔ Wp mi (pc + 3) L (pR r9 :: st) lay nx h Q := Wp.next hq (by subst hr; exact if_pos ⟨h0, hk, h1⟩)
theorem o_putI {o x : Int} (hq : pcode mi pc = some (58, a, b9, c9, v)) (h0 : 0 < o) (hk : kd lay o = (0, b9)) : Wp mi pc L (pI x :: pR o :: st) lay nx h Q ↔ Wp mi (pc + 3) L (st) lay nx (pup h o c9 x) Q := Wp.next hq (if_pos ⟨h0, hk⟩)
theorem o_putZ {o x : Int} (hq : pcode mi pc = some (59, a, b9, c9, v)) (h0 : 0 < o) (hk : kd lay o = (0, b9)) (hx : x = 0 ∨ x = 1) : Wp mi pc L (pI x :: pR o :: st) lay nx h Q ↔ Wp mi (pc + 3) L (st) lay nx (pup h o c9 x) Q := Wp.next hq (if_pos ⟨h0, hk, hx⟩)
theorem o_putJ {o x : Int} (hq : pcode mi pc = some (60, a, b9, c9, v)) (h0 : 0 < o) (hk : kd lay o = (0, b9)) : Wp mi pc L (pJ x :: pR o :: st) lay nx h Q ↔ Wp mi (pc + 3) L (st) lay nx (pup h o c9 x) Q := Wp.next hq (if_pos ⟨h0, hk⟩)
theorem o_putR {o x : Int} (hq : pcode mi pc = some (61, a, b9, c9, v)) (h0 : 0 < o) (hk : kd lay o = (0, b9)) (hx : 0 < x) : Wp mi pc L (pR x :: pR o :: st) lay nx h Q ↔ Wp mi (pc + 3) L (st) lay nx (rup h o c9 x) Q := Wp.next hq (if_pos ⟨h0, hk, hx⟩)
theorem o_iald {o i : Int} {n : Nat} (hq : pcode mi pc = some (63, a, b9, c9, v)) (h0 : 0 < o) (hk : kd lay o = (1, n)) (hi : 0 ≤ i) (hn : i < n) : Wp mi pc L (pI i :: pR o :: st) lay nx h Q ↔ Wp mi (pc + 1) L (pI (h.1 o i) :: st) lay nx h Q := Wp.next hq (if_pos ⟨h0, congrArg Prod.fst hk, hi, by unfold al; rw [hk]; exact hn⟩)
theorem o_iast {o i x : Int} {n : Nat} (hq : pcode mi pc = some (64, a, b9, c9, v)) (h0 : 0 < o) (hk : kd lay o = (1, n)) (hi : 0 ≤ i) (hn : i < n) : Wp mi pc L (pI x :: pI i :: pR o :: st) lay nx h Q ↔ Wp mi (pc + 1) L (st) lay nx (pup h o i x) Q := Wp.next hq (if_pos ⟨h0, congrArg Prod.fst hk, hi, by unfold al; rw [hk]; exact hn⟩)
theorem o_lald {o i : Int} {n : Nat} (hq : pcode mi pc = some (65, a, b9, c9, v)) (h0 : 0 < o) (hk : kd lay o = (2, n)) (hi : 0 ≤ i) (hn : i < n) : Wp mi pc L (pI i :: pR o :: st) lay nx h Q ↔ Wp mi (pc + 1) L (pJ (h.1 o i) :: st) lay nx h Q := Wp.next hq (if_pos ⟨h0, congrArg Prod.fst hk, hi, by unfold al; rw [hk]; exact hn⟩)
theorem o_last {o i x : Int} {n : Nat} (hq : pcode mi pc = some (66, a, b9, c9, v)) (h0 : 0 < o) (hk : kd lay o = (2, n)) (hi : 0 ≤ i) (hn : i < n) : Wp mi pc L (pJ x :: pI i :: pR o :: st) lay nx h Q ↔ Wp mi (pc + 1) L (st) lay nx (pup h o i x) Q := Wp.next hq (if_pos ⟨h0, congrArg Prod.fst hk, hi, by unfold al; rw [hk]; exact hn⟩)
theorem o_bald {o i : Int} {n : Nat} (hq : pcode mi pc = some (67, a, b9, c9, v)) (h0 : 0 < o) (hk : kd lay o = (3, n)) (hi : 0 ≤ i) (hn : i < n) : Wp mi pc L (pI i :: pR o :: st) lay nx h Q ↔ Wp mi (pc + 1) L (pI (h.1 o i) :: st) lay nx h Q := Wp.next hq (if_pos ⟨h0, congrArg Prod.fst hk, hi, by unfold al; rw [hk]; exact hn⟩)
theorem o_bast {o i x : Int} {n : Nat} (hq : pcode mi pc = some (68, a, b9, c9, v)) (h0 : 0 < o) (hk : kd lay o = (3, n)) (hi : 0 ≤ i) (hn : i < n) : Wp mi pc L (pI x :: pI i :: pR o :: st) lay nx h Q ↔ Wp mi (pc + 1) L (st) lay nx (pup h o i (w8 x)) Q := Wp.next hq (if_pos ⟨h0, congrArg Prod.fst hk, hi, by unfold al; rw [hk]; exact hn⟩)
theorem o_zald {o i : Int} {n : Nat} (hq : pcode mi pc = some (69, a, b9, c9, v)) (h0 : 0 < o) (hk : kd lay o = (4, n)) (hi : 0 ≤ i) (hn : i < n) : Wp mi pc L (pI i :: pR o :: st) lay nx h Q ↔ Wp mi (pc + 1) L (pI (h.1 o i) :: st) lay nx h Q := Wp.next hq (if_pos ⟨h0, congrArg Prod.fst hk, hi, by unfold al; rw [hk]; exact hn⟩)
theorem o_zast {o i x : Int} {n : Nat} (hq : pcode mi pc = some (70, a, b9, c9, v)) (h0 : 0 < o) (hk : kd lay o = (4, n)) (hi : 0 ≤ i) (hn : i < n) (hx : x = 0 ∨ x = 1) : Wp mi pc L (pI x :: pI i :: pR o :: st) lay nx h Q ↔ Wp mi (pc + 1) L (st) lay nx (pup h o i x) Q := Wp.next hq (if_pos ⟨h0, congrArg Prod.fst hk, hi, by unfold al; rw [hk]; exact hn, hx⟩)
theorem o_aald {o i r9 : Int} {n : Nat} (hq : pcode mi pc = some (71, a, b9, c9, v)) (h0 : 0 < o) (hk : kd lay o = (5, n)) (hi : 0 ≤ i) (hn : i < n) (hr : h.2.1 o i = r9) (h1 : 0 < r9) : Wp mi pc L (pI i :: pR o :: st) lay nx h Q ↔ Wp mi (pc + 1) L (pR r9 :: st) lay nx h Q := Wp.next hq (by subst hr; exact if_pos ⟨h0, congrArg Prod.fst hk, hi, by unfold al; rw [hk]; exact hn, h1⟩)
theorem o_alen {o : Int} {k n : Nat} (hq : pcode mi pc = some (73, a, b9, c9, v)) (h0 : 0 < o) (hk : kd lay o = (k, n)) (hk1 : k = 1 ∨ k = 2 ∨ k = 3) (hn : (n : Int) < 2147483648) : Wp mi pc L (pR o :: st) lay nx h Q ↔ Wp mi (pc + 1) L (pI n :: st) lay nx h Q := Wp.next hq (by have ha : al lay o = n := (by unfold al; rw [hk]); have hb : ak lay o = k := congrArg Prod.fst hk; rw [← ha] at hn ⊢; exact if_pos ⟨h0, by rw [hb]; exact hk1, hn⟩)
theorem o_acopy {o o2 sp dp m : Int} {n n2 : Nat} (hq : pcode mi pc = some (82, a, b9, c9, v)) (h0 : 0 < o) (h1 : 0 < o2) (hk : kd lay o = (1, n)) (hk2 : kd lay o2 = (1, n2)) (hs : 0 ≤ sp) (hd : 0 ≤ dp) (hm : 0 ≤ m) (h3 : sp + m ≤ n) (h4 : dp + m ≤ n2) (h5 : pcats st ≤ 8) : Wp mi pc L (pI m :: pI dp :: pR o2 :: pI sp :: pR o :: st) lay nx h Q ↔ Wp mi (pc + 3) L (st) lay nx (pcpy h o sp o2 dp m) Q := Wp.next hq (if_pos ⟨h0, h1, congrArg Prod.fst hk, congrArg Prod.fst hk2, hs, hd, hm, by unfold al; rw [hk]; exact h3, by unfold al; rw [hk2]; exact h4, h5⟩)
theorem o_ldcs  (hq : pcode mi pc = some (84, a, b9, c9, v)) : Wp mi pc L (st) lay nx h Q ↔ Wp mi (pc + 2) L (pR (-((a : Int) + 1)) :: st) lay nx h Q := Wp.next hq rfl
theorem o_slength {o : Int} (hq : pcode mi pc = some (91, a, b9, c9, v)) (h0 : -7 ≤ o) (h1 : o < 0) (h5 : pcats st ≤ 8) : Wp mi pc L (pR o :: st) lay nx h Q ↔ Wp mi (pc + 3) L (pI (pstrLen o) :: st) lay nx h Q := Wp.next hq (if_pos ⟨h0, h1, h5⟩)
theorem o_mmin {x y : Int} (hq : pcode mi pc = some (93, a, b9, c9, v)) (h5 : pcats st ≤ 8) : Wp mi pc L (pI y :: pI x :: st) lay nx h Q ↔ Wp mi (pc + 3) L (pI (if y < x then y else x) :: st) lay nx h Q := Wp.next hq (if_pos h5)
theorem o_mmax {x y : Int} (hq : pcode mi pc = some (94, a, b9, c9, v)) (h5 : pcats st ≤ 8) : Wp mi pc L (pI y :: pI x :: st) lay nx h Q ↔ Wp mi (pc + 3) L (pI (if x < y then y else x) :: st) lay nx h Q := Wp.next hq (if_pos h5)
theorem o_scharAt {o i : Int} (hq : pcode mi pc = some (92, a, b9, c9, v)) (h0 : -7 ≤ o) (h1 : o < 0) (hi : 0 ≤ i) (hn : i < pstrLen o) (h5 : pcats st ≤ 8) : Wp mi pc L (pI i :: pR o :: st) lay nx h Q ↔ Wp mi (pc + 3) L (pI (pstrAt o i) :: st) lay nx h Q := Wp.next hq (if_pos ⟨h0, h1, hi, hn, h5⟩)
theorem o_sld {i : Int} (hq : pcode mi pc = some (85, a, b9, c9, v)) (h0 : 0 ≤ i) (h1 : i < h.2.2 (-1)) : Wp mi pc L (pI i :: pR (-1000) :: st) lay nx h Q ↔ Wp mi (pc + 1) L (pI (h.2.2 i) :: st) lay nx h Q := Wp.next hq (if_pos ⟨rfl, h0, h1⟩)
theorem o_slen  (hq : pcode mi pc = some (86, a, b9, c9, v)) : Wp mi pc L (pR (-1000) :: st) lay nx h Q ↔ Wp mi (pc + 1) L (pI (h.2.2 (-1)) :: st) lay nx h Q := Wp.next hq (by show s_slen (86, a, b9, c9, v) (pc, L, Sum.inr (Sum.inr (-1000)) :: st, lay, nx, h) = _; simp only [s_slen]; rfl)
theorem o_iret {x : Int} (hq : pcode mi pc = some (87, a, b9, c9, v)) : Wp mi pc L [pI x] lay nx h Q ↔ Q (Sum.inl (some (pI x))) lay nx h := Wp.ret hq rfl
theorem o_zret {x : Int} (hq : pcode mi pc = some (88, a, b9, c9, v)) (hx : x = 0 ∨ x = 1) : Wp mi pc L [pI x] lay nx h Q ↔ Q (Sum.inl (some (pI x))) lay nx h := Wp.ret hq (if_pos hx)
theorem o_lret {x : Int} (hq : pcode mi pc = some (89, a, b9, c9, v)) : Wp mi pc L [pJ x] lay nx h Q ↔ Q (Sum.inl (some (pJ x))) lay nx h := Wp.ret hq rfl
theorem o_vret (hq : pcode mi pc = some (90, a, b9, c9, v)) : Wp mi pc L [] lay nx h Q ↔ Q (Sum.inl none) lay nx h := Wp.ret hq rfl
theorem o_throw (hq : pcode mi pc = some (83, a, b9, c9, v)) (h1 : pcats st ≤ 8) (h2 : a < 3) : Wp mi pc L st lay nx h Q ↔ Q (Sum.inr a) lay (nx + 1) h := Wp.thr hq (if_pos ⟨h1, h2⟩)
theorem o_ivS {s1 s2 : List PV} {L' : PL} (hq : pcode mi pc = some (77, a, b9, c9, v)) (hl : s1.length = b9) (h8 : pcats s2 ≤ 8) (ha : pargs a s1.reverse = true) (hp : pini.getD a 0 = 0) (hL : entL s1.reverse (pnL a) = L') : Wp mi pc L (s1 ++ s2) lay nx h Q ↔ Wp a 0 L' [] lay nx h (Kc mi pc L (pc + 3) s2 Q) := by
  subst hL
  refine Wp.call (args := s1.reverse) (st' := s2) hq ?_ ha hp
  show (if b9 ≤ (s1 ++ s2).length ∧ pcats ((s1 ++ s2).drop b9) ≤ 8 then some (Sum.inr (Sum.inl (a, ((s1 ++ s2).take b9).reverse, pc + 3, (s1 ++ s2).drop b9))) else none) = _
  rw [List.drop_left' hl, List.take_left' hl, if_pos ⟨by simp; omega, h8⟩]
theorem o_ivV {s1 s2 : List PV} {L' : PL} {o : Int} (hq : pcode mi pc = some (78, a, b9, c9, v)) (hl : s1.length + 1 = b9) (h8 : pcats s2 ≤ 8) (h0 : 0 < o) (hk : kd lay o = (0, pcls.getD a 99)) (ha : pargs a (pR o :: s1.reverse) = true) (hp : pini.getD a 0 = 0) (hL : entL (pR o :: s1.reverse) (pnL a) = L') : Wp mi pc L (s1 ++ pR o :: s2) lay nx h Q ↔ Wp a 0 L' [] lay nx h (Kc mi pc L (pc + 3) s2 Q) := by
  subst hL
  refine Wp.call (args := pR o :: s1.reverse) (st' := s2) hq ?_ ha hp
  have e1 : s1 ++ pR o :: s2 = (s1 ++ [pR o]) ++ s2 := by simp
  have e2 : (s1 ++ [pR o]).length = b9 := by simp; exact hl
  show s_ivV (78, a, b9, c9, v) (pc, L, s1 ++ pR o :: s2, lay, nx, h) = _
  simp only [s_ivV]
  rw [e1, List.drop_left' e2, List.take_left' e2]
  have e3 : (s1 ++ [pR o]).reverse = pR o :: s1.reverse := by simp
  rw [e3]
  dsimp only
  rw [if_pos ⟨by simp; omega, h8, h0, hk⟩]
end WO

