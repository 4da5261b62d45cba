/-! THE PURE MACHINE. A method's code is a list of numbered operations (op, a, b, c, v); values are whole numbers; a heap is a list of layouts and functions (reference, place) -> number or reference; references are numbers from 1 on (the n-th cell made is n), string constants -1 .. -7, the script -1000, a caught exception -2000. What it computes, the machine does: part 'sound'. -/
abbrev PV : Type := Int ⊕ (Int ⊕ Int)
abbrev pI (x : Int) : PV := Sum.inl x
abbrev pJ (x : Int) : PV := Sum.inr (Sum.inl x)
abbrev pR (x : Int) : PV := Sum.inr (Sum.inr x)
abbrev PI : Type := Nat × Nat × Nat × Nat × Int
abbrev PL : Type := List (Option PV)
abbrev PY : Type := List (Nat × Nat)
abbrev PF : Type := Int → Int → Int
/-- contents: numbers, references, the script (its length at -1) -/
abbrev PC : Type := PF × PF × (Int → Int)
abbrev PS : Type := Nat × PL × List PV × PY × Nat × PC
abbrev PO : Type := Option PV ⊕ Nat
/-- next state; a call (method, arguments, the pc behind, the rest of the stack); an end -/
abbrev PR : Type := PS ⊕ ((Nat × List PV × Nat × List PV) ⊕ PO)
def w32 (x : Int) : Int := x.bmod 4294967296
def w64 (x : Int) : Int := x.bmod 18446744073709551616
def w8 (x : Int) : Int := x.bmod 256
def fup (f : PF) (a k v : Int) : PF := fun a' k' => if a' = a ∧ k' = k then v else f a' k'
def fzero (f : PF) (a : Int) : PF := fun a' k' => if a' = a then 0 else f a' k'
def fcpy (f : PF) (a sp b dp n : Int) : PF := fun a' k' => if a' = b ∧ dp ≤ k' ∧ k' < dp + n then f a (sp + (k' - dp)) else f a' k'
def pup (h : PC) (a k v : Int) : PC := (fup h.1 a k v, h.2.1, h.2.2)
def rup (h : PC) (a k v : Int) : PC := (h.1, fup h.2.1 a k v, h.2.2)
def pzero (h : PC) (a : Int) : PC := (fzero h.1 a, fzero h.2.1 a, h.2.2)
def pdiv (x y : Int) : Int := (Int32.ofInt x / Int32.ofInt y).toInt
def prem (x y : Int) : Int := (Int32.ofInt x - Int32.ofInt x / Int32.ofInt y * Int32.ofInt y).toInt
def pand (x y : Int) : Int := (Int32.ofInt x &&& Int32.ofInt y).toInt
def por (x y : Int) : Int := (Int32.ofInt x ||| Int32.ofInt y).toInt
def pshl (x y : Int) : Int := (Int32.ofInt x <<< (Int32.ofInt y &&& 31)).toInt
def pshr (x y : Int) : Int := (Int32.ofInt x >>> (Int32.ofInt y &&& 31)).toInt
def pushr (x y : Int) : Int := ((Int32.ofInt x).toUInt32 >>> ((Int32.ofInt y).toUInt32 &&& Int32.toUInt32 31)).toInt32.toInt
def plor (x y : Int) : Int := (Int64.ofInt x ||| Int64.ofInt y).toInt
def plshl (x y : Int) : Int := (Int64.ofInt x <<< ((Int32.ofInt y).toInt64 &&& 63)).toInt
def plcmp (x y : Int) : Int := if y < x then 1 else if x = y then 0 else -1
def kd (lay : PY) (a : Int) : Nat × Nat := if a ≤ 0 then (9, 0) else lay.getD (a - 1).toNat (9, 0)
def ak (lay : PY) (a : Int) : Nat := (kd lay a).1
def al (lay : PY) (a : Int) : Int := ((kd lay a).2 : Int)
/-- field counts of the nine classes; slots of a cell -/
def pN : Nat → Nat
  | 0 => 8 | 1 => 5 | 2 => 11 | 3 => 9 | 4 => 8 | 5 => 15 | 6 => 4 | 7 => 8 | 8 => 30 | _ => 0
def cellSlots (q : Nat × Nat) : Nat := if q.1 = 0 then pN q.2 else q.2
def szs (lay : PY) : Nat := (lay.map cellSlots).sum
/-- a store into a long's second half ends the long -/
def clr1 : Option PV → Option PV
  | some (Sum.inr (Sum.inl _)) => none
  | p => p
def clrL (L : PL) (i : Nat) : PL := match i with
  | 0 => L
  | j + 1 => L.set j (clr1 ((L[j]?).getD none))
/-- a store: where the method keeps longs in locals (b = 1), a long at the place before ends -/
def setQ (q : PI) (L : PL) (p : PV) : PL := if q.2.2.1 = 0 then L.set q.2.1 (some p) else (clrL L q.2.1).set q.2.1 (some p)
def setJ (L : PL) (i : Nat) (p : PV) : PL := ((clrL L i).set i (some p)).set (i + 1) none
def getL (L : PL) (i : Nat) : Option PV := (L[i]?).getD none
def layA : List PV → PL
  | [] => []
  | Sum.inr (Sum.inl x) :: r => some (Sum.inr (Sum.inl x)) :: none :: layA r
  | p :: r => some p :: layA r
def entL (args : List PV) (n : Nat) : PL := layA args ++ List.replicate (n - (layA args).length) none
def pcat : PV → Nat
  | Sum.inr (Sum.inl _) => 2
  | _ => 1
def pcats (st : List PV) : Nat := (st.map pcat).sum
def pnext (pc : Nat) (L : PL) (st : List PV) (lay : PY) (nx : Nat) (h : PC) : Option PR := some (Sum.inl (pc, L, st, lay, nx, h))
def lkP : List (Nat × PI) → Nat → Option PI
  | [], _ => none
  | (a, q) :: t, pc => if a = pc then some q else lkP t pc
/-- copying inside a row -/
def pcpy (h : PC) (a sp b dp n : Int) : PC := (fcpy h.1 a sp b dp n, h.2.1, h.2.2)
def s_iconst (q : PI) (σ : PS) : Option PR :=
  match σ with
  | (pc, L, st, lay, nx, h) => pnext (pc + 1) L (pI q.2.2.2.2 :: st) lay nx h
def s_bipush (q : PI) (σ : PS) : Option PR :=
  match σ with
  | (pc, L, st, lay, nx, h) => pnext (pc + 2) L (pI q.2.2.2.2 :: st) lay nx h
def s_sipush (q : PI) (σ : PS) : Option PR :=
  match σ with
  | (pc, L, st, lay, nx, h) => pnext (pc + 3) L (pI q.2.2.2.2 :: st) lay nx h
def s_lconst (q : PI) (σ : PS) : Option PR :=
  match σ with
  | (pc, L, st, lay, nx, h) => pnext (pc + 1) L (pJ q.2.2.2.2 :: st) lay nx h
def s_ldci (q : PI) (σ : PS) : Option PR :=
  match σ with
  | (pc, L, st, lay, nx, h) => pnext (pc + 3) L (pI q.2.2.2.2 :: st) lay nx h
def s_iload_n (q : PI) (σ : PS) : Option PR :=
  match σ with
  | (pc, L, st, lay, nx, h) => match getL L q.2.1 with
    | some (Sum.inl x) => pnext (pc + 1) L (Sum.inl x :: st) lay nx h
    | _ => none
def s_iload (q : PI) (σ : PS) : Option PR :=
  match σ with
  | (pc, L, st, lay, nx, h) => match getL L q.2.1 with
    | some (Sum.inl x) => pnext (pc + 2) L (Sum.inl x :: st) lay nx h
    | _ => none
def s_lload_n (q : PI) (σ : PS) : Option PR :=
  match σ with
  | (pc, L, st, lay, nx, h) => match getL L q.2.1 with
    | some (Sum.inr (Sum.inl x)) => pnext (pc + 1) L (Sum.inr (Sum.inl x) :: st) lay nx h
    | _ => none
def s_lload (q : PI) (σ : PS) : Option PR :=
  match σ with
  | (pc, L, st, lay, nx, h) => match getL L q.2.1 with
    | some (Sum.inr (Sum.inl x)) => pnext (pc + 2) L (Sum.inr (Sum.inl x) :: st) lay nx h
    | _ => none
def s_aload_n (q : PI) (σ : PS) : Option PR :=
  match σ with
  | (pc, L, st, lay, nx, h) => match getL L q.2.1 with
    | some (Sum.inr (Sum.inr x)) => pnext (pc + 1) L (Sum.inr (Sum.inr x) :: st) lay nx h
    | _ => none
def s_aload (q : PI) (σ : PS) : Option PR :=
  match σ with
  | (pc, L, st, lay, nx, h) => match getL L q.2.1 with
    | some (Sum.inr (Sum.inr x)) => pnext (pc + 2) L (Sum.inr (Sum.inr x) :: st) lay nx h
    | _ => none
def s_istore_n (q : PI) (σ : PS) : Option PR :=
  match σ with
  | (pc, L, Sum.inl x :: st, lay, nx, h) => pnext (pc + 1) (setQ q L (Sum.inl x)) st lay nx h
  | _ => none
def s_istore (q : PI) (σ : PS) : Option PR :=
  match σ with
  | (pc, L, Sum.inl x :: st, lay, nx, h) => pnext (pc + 2) (setQ q L (Sum.inl x)) st lay nx h
  | _ => none
def s_lstore_n (q : PI) (σ : PS) : Option PR :=
  match σ with
  | (pc, L, Sum.inr (Sum.inl x) :: st, lay, nx, h) => pnext (pc + 1) (setJ L q.2.1 (Sum.inr (Sum.inl x))) st lay nx h
  | _ => none
def s_lstore (q : PI) (σ : PS) : Option PR :=
  match σ with
  | (pc, L, Sum.inr (Sum.inl x) :: st, lay, nx, h) => pnext (pc + 2) (setJ L q.2.1 (Sum.inr (Sum.inl x))) st lay nx h
  | _ => none
def s_astore_n (q : PI) (σ : PS) : Option PR :=
  match σ with
  | (pc, L, Sum.inr (Sum.inr x) :: st, lay, nx, h) => pnext (pc + 1) (setQ q L (Sum.inr (Sum.inr x))) st lay nx h
  | _ => none
def s_astore (q : PI) (σ : PS) : Option PR :=
  match σ with
  | (pc, L, Sum.inr (Sum.inr x) :: st, lay, nx, h) => pnext (pc + 2) (setQ q L (Sum.inr (Sum.inr x))) st lay nx h
  | _ => none
def s_iinc (q : PI) (σ : PS) : Option PR :=
  match σ with
  | (pc, L, st, lay, nx, h) => match getL L q.2.1 with
    | some (Sum.inl x) => pnext (pc + 3) (setQ q L (pI (w32 (x + q.2.2.2.2)))) st lay nx h
    | _ => none
def s_iadd (q : PI) (σ : PS) : Option PR :=
  match σ with
  | (pc, L, Sum.inl y :: Sum.inl x :: st, lay, nx, h) => pnext (pc + 1) L (pI (w32 (x + y)) :: st) lay nx h
  | _ => none
def s_isub (q : PI) (σ : PS) : Option PR :=
  match σ with
  | (pc, L, Sum.inl y :: Sum.inl x :: st, lay, nx, h) => pnext (pc + 1) L (pI (w32 (x - y)) :: st) lay nx h
  | _ => none
def s_imul (q : PI) (σ : PS) : Option PR :=
  match σ with
  | (pc, L, Sum.inl y :: Sum.inl x :: st, lay, nx, h) => pnext (pc + 1) L (pI (w32 (x * y)) :: st) lay nx h
  | _ => none
def s_iand (q : PI) (σ : PS) : Option PR :=
  match σ with
  | (pc, L, Sum.inl y :: Sum.inl x :: st, lay, nx, h) => pnext (pc + 1) L (pI (pand x y) :: st) lay nx h
  | _ => none
def s_ior (q : PI) (σ : PS) : Option PR :=
  match σ with
  | (pc, L, Sum.inl y :: Sum.inl x :: st, lay, nx, h) => pnext (pc + 1) L (pI (por x y) :: st) lay nx h
  | _ => none
def s_idiv (q : PI) (σ : PS) : Option PR :=
  match σ with
  | (pc, L, Sum.inl y :: Sum.inl x :: st, lay, nx, h) => if y ≠ 0 then pnext (pc + 1) L (pI (pdiv x y) :: st) lay nx h else none
  | _ => none
def s_irem (q : PI) (σ : PS) : Option PR :=
  match σ with
  | (pc, L, Sum.inl y :: Sum.inl x :: st, lay, nx, h) => if y ≠ 0 then pnext (pc + 1) L (pI (prem x y) :: st) lay nx h else none
  | _ => none
def s_ishl (q : PI) (σ : PS) : Option PR :=
  match σ with
  | (pc, L, Sum.inl y :: Sum.inl x :: st, lay, nx, h) => pnext (pc + 1) L (pI (pshl x y) :: st) lay nx h
  | _ => none
def s_ishr (q : PI) (σ : PS) : Option PR :=
  match σ with
  | (pc, L, Sum.inl y :: Sum.inl x :: st, lay, nx, h) => pnext (pc + 1) L (pI (pshr x y) :: st) lay nx h
  | _ => none
def s_iushr (q : PI) (σ : PS) : Option PR :=
  match σ with
  | (pc, L, Sum.inl y :: Sum.inl x :: st, lay, nx, h) => pnext (pc + 1) L (pI (pushr x y) :: st) lay nx h
  | _ => none
def s_ladd (q : PI) (σ : PS) : Option PR :=
  match σ with
  | (pc, L, Sum.inr (Sum.inl y) :: Sum.inr (Sum.inl x) :: st, lay, nx, h) => pnext (pc + 1) L (pJ (w64 (x + y)) :: st) lay nx h
  | _ => none
def s_lsub (q : PI) (σ : PS) : Option PR :=
  match σ with
  | (pc, L, Sum.inr (Sum.inl y) :: Sum.inr (Sum.inl x) :: st, lay, nx, h) => pnext (pc + 1) L (pJ (w64 (x - y)) :: st) lay nx h
  | _ => none
def s_lmul (q : PI) (σ : PS) : Option PR :=
  match σ with
  | (pc, L, Sum.inr (Sum.inl y) :: Sum.inr (Sum.inl x) :: st, lay, nx, h) => pnext (pc + 1) L (pJ (w64 (x * y)) :: st) lay nx h
  | _ => none
def s_lor (q : PI) (σ : PS) : Option PR :=
  match σ with
  | (pc, L, Sum.inr (Sum.inl y) :: Sum.inr (Sum.inl x) :: st, lay, nx, h) => pnext (pc + 1) L (pJ (plor x y) :: st) lay nx h
  | _ => none
def s_lshl (q : PI) (σ : PS) : Option PR :=
  match σ with
  | (pc, L, Sum.inl y :: Sum.inr (Sum.inl x) :: st, lay, nx, h) => pnext (pc + 1) L (pJ (plshl x y) :: st) lay nx h
  | _ => none
def s_lcmp (q : PI) (σ : PS) : Option PR :=
  match σ with
  | (pc, L, Sum.inr (Sum.inl y) :: Sum.inr (Sum.inl x) :: st, lay, nx, h) => pnext (pc + 1) L (pI (plcmp x y) :: st) lay nx h
  | _ => none
def s_i2l (q : PI) (σ : PS) : Option PR :=
  match σ with
  | (pc, L, Sum.inl x :: st, lay, nx, h) => pnext (pc + 1) L (pJ x :: st) lay nx h
  | _ => none
def s_l2i (q : PI) (σ : PS) : Option PR :=
  match σ with
  | (pc, L, Sum.inr (Sum.inl x) :: st, lay, nx, h) => pnext (pc + 1) L (pI (w32 x) :: st) lay nx h
  | _ => none
def s_i2b (q : PI) (σ : PS) : Option PR :=
  match σ with
  | (pc, L, Sum.inl x :: st, lay, nx, h) => pnext (pc + 1) L (pI (w8 x) :: st) lay nx h
  | _ => none
def s_dup (q : PI) (σ : PS) : Option PR :=
  match σ with
  | (pc, L, p :: st, lay, nx, h) => if pcat p = 1 then pnext (pc + 1) L (p :: p :: st) lay nx h else none
  | _ => none
def s_dup2 (q : PI) (σ : PS) : Option PR :=
  match σ with
  | (pc, L, p :: p2 :: st, lay, nx, h) => if pcat p = 1 ∧ pcat p2 = 1 then pnext (pc + 1) L (p :: p2 :: p :: p2 :: st) lay nx h else none
  | _ => none
def s_pop (q : PI) (σ : PS) : Option PR :=
  match σ with
  | (pc, L, p :: st, lay, nx, h) => if pcat p = 1 then pnext (pc + 1) L (st) lay nx h else none
  | _ => none
def s_if_eq (q : PI) (σ : PS) : Option PR :=
  match σ with
  | (pc, L, Sum.inl x :: st, lay, nx, h) => if x = 0 then pnext q.2.1 L st lay nx h else pnext (pc + 3) L st lay nx h
  | _ => none
def s_if_ne (q : PI) (σ : PS) : Option PR :=
  match σ with
  | (pc, L, Sum.inl x :: st, lay, nx, h) => if x ≠ 0 then pnext q.2.1 L st lay nx h else pnext (pc + 3) L st lay nx h
  | _ => none
def s_if_lt (q : PI) (σ : PS) : Option PR :=
  match σ with
  | (pc, L, Sum.inl x :: st, lay, nx, h) => if x < 0 then pnext q.2.1 L st lay nx h else pnext (pc + 3) L st lay nx h
  | _ => none
def s_if_ge (q : PI) (σ : PS) : Option PR :=
  match σ with
  | (pc, L, Sum.inl x :: st, lay, nx, h) => if 0 ≤ x then pnext q.2.1 L st lay nx h else pnext (pc + 3) L st lay nx h
  | _ => none
def s_if_gt (q : PI) (σ : PS) : Option PR :=
  match σ with
  | (pc, L, Sum.inl x :: st, lay, nx, h) => if 0 < x then pnext q.2.1 L st lay nx h else pnext (pc + 3) L st lay nx h
  | _ => none
def s_if_le (q : PI) (σ : PS) : Option PR :=
  match σ with
  | (pc, L, Sum.inl x :: st, lay, nx, h) => if x ≤ 0 then pnext q.2.1 L st lay nx h else pnext (pc + 3) L st lay nx h
  | _ => none
def s_icmp_eq (q : PI) (σ : PS) : Option PR :=
  match σ with
  | (pc, L, Sum.inl y :: Sum.inl x :: st, lay, nx, h) => if x = y then pnext q.2.1 L st lay nx h else pnext (pc + 3) L st lay nx h
  | _ => none
def s_icmp_ne (q : PI) (σ : PS) : Option PR :=
  match σ with
  | (pc, L, Sum.inl y :: Sum.inl x :: st, lay, nx, h) => if x ≠ y then pnext q.2.1 L st lay nx h else pnext (pc + 3) L st lay nx h
  | _ => none
def s_icmp_lt (q : PI) (σ : PS) : Option PR :=
  match σ with
  | (pc, L, Sum.inl y :: Sum.inl x :: st, lay, nx, h) => if x < y then pnext q.2.1 L st lay nx h else pnext (pc + 3) L st lay nx h
  | _ => none
def s_icmp_ge (q : PI) (σ : PS) : Option PR :=
  match σ with
  | (pc, L, Sum.inl y :: Sum.inl x :: st, lay, nx, h) => if y ≤ x then pnext q.2.1 L st lay nx h else pnext (pc + 3) L st lay nx h
  | _ => none
def s_icmp_gt (q : PI) (σ : PS) : Option PR :=
  match σ with
  | (pc, L, Sum.inl y :: Sum.inl x :: st, lay, nx, h) => if y < x then pnext q.2.1 L st lay nx h else pnext (pc + 3) L st lay nx h
  | _ => none
def s_icmp_le (q : PI) (σ : PS) : Option PR :=
  match σ with
  | (pc, L, Sum.inl y :: Sum.inl x :: st, lay, nx, h) => if x ≤ y then pnext q.2.1 L st lay nx h else pnext (pc + 3) L st lay nx h
  | _ => none
def s_goto (q : PI) (σ : PS) : Option PR :=
  match σ with
  | (pc, L, st, lay, nx, h) => pnext q.2.1 L st lay nx h
/-- the switches: low, high, default, targets -/
def pswt : List (Int × Int × Nat × List Nat) := [(0, 8, 138, [52, 60, 68, 76, 84, 92, 114, 122, 130]), (0, 6, 125, [48, 58, 68, 78, 88, 105, 115]), (0, 7, 145, [76, 83, 90, 97, 104, 111, 131, 138]), (0, 33, 2079, [192, 265, 321, 334, 390, 458, 526, 601, 681, 749, 817, 873, 929, 985, 998, 1011, 1067, 1135, 1160, 1223, 1236, 1303, 1359, 1427, 1495, 1563, 1619, 1675, 1743, 1799, 1879, 1947, 1960, 2023])]
/-- the string constants -/
def pstrs : List (List Nat) := [[108, 101, 116, 116, 101, 114, 115], [109, 97, 99, 104, 105, 110, 101], [108, 105, 115, 116, 101, 110, 115], [116, 117, 114, 110], [103, 111], [97, 99, 99, 101, 112, 116], [116, 105, 114, 101]]
def pstrLen (a : Int) : Int := ((pstrs.getD (-a - 1).toNat []).length : Int)
def pstrAt (a i : Int) : Int := (((pstrs.getD (-a - 1).toNat []).getD i.toNat 0 : Nat) : Int)
def s_tswitch (q : PI) (σ : PS) : Option PR :=
  match σ with
  | (pc, L, Sum.inl x :: st, lay, nx, h) => match pswt[q.2.1]? with
    | some (lo, hi, d, ts) => if x < lo ∨ hi < x then pnext d L st lay nx h else match ts[(x - lo).toNat]? with
      | some t => pnext t L st lay nx h
      | none => none
    | none => none
  | _ => none
def s_getI (q : PI) (σ : PS) : Option PR :=
  match σ with
  | (pc, L, Sum.inr (Sum.inr a) :: st, lay, nx, h) => if 0 < a ∧ kd lay a = (0, q.2.2.1) then pnext (pc + 3) L (pI (h.1 a q.2.2.2.1) :: st) lay nx h else none
  | _ => none
def s_getJ (q : PI) (σ : PS) : Option PR :=
  match σ with
  | (pc, L, Sum.inr (Sum.inr a) :: st, lay, nx, h) => if 0 < a ∧ kd lay a = (0, q.2.2.1) then pnext (pc + 3) L (pJ (h.1 a q.2.2.2.1) :: st) lay nx h else none
  | _ => none
def s_getR (q : PI) (σ : PS) : Option PR :=
  match σ with
  | (pc, L, Sum.inr (Sum.inr a) :: st, lay, nx, h) => if 0 < a ∧ kd lay a = (0, q.2.2.1) ∧ 0 < h.2.1 a q.2.2.2.1 then pnext (pc + 3) L (pR (h.2.1 a q.2.2.2.1) :: st) lay nx h else none
  | _ => none
def s_putI (q : PI) (σ : PS) : Option PR :=
  match σ with
  | (pc, L, Sum.inl x :: Sum.inr (Sum.inr a) :: st, lay, nx, h) => if 0 < a ∧ kd lay a = (0, q.2.2.1) then pnext (pc + 3) L (st) lay nx (pup h a q.2.2.2.1 x) else none
  | _ => none
def s_putZ (q : PI) (σ : PS) : Option PR :=
  match σ with
  | (pc, L, Sum.inl x :: Sum.inr (Sum.inr a) :: st, lay, nx, h) => if 0 < a ∧ kd lay a = (0, q.2.2.1) ∧ (x = 0 ∨ x = 1) then pnext (pc + 3) L (st) lay nx (pup h a q.2.2.2.1 x) else none
  | _ => none
def s_putJ (q : PI) (σ : PS) : Option PR :=
  match σ with
  | (pc, L, Sum.inr (Sum.inl x) :: Sum.inr (Sum.inr a) :: st, lay, nx, h) => if 0 < a ∧ kd lay a = (0, q.2.2.1) then pnext (pc + 3) L (st) lay nx (pup h a q.2.2.2.1 x) else none
  | _ => none
def s_putR (q : PI) (σ : PS) : Option PR :=
  match σ with
  | (pc, L, Sum.inr (Sum.inr x) :: Sum.inr (Sum.inr a) :: st, lay, nx, h) => if 0 < a ∧ kd lay a = (0, q.2.2.1) ∧ 0 < x then pnext (pc + 3) L (st) lay nx (rup h a q.2.2.2.1 x) else none
  | _ => none
def s_putF (q : PI) (σ : PS) : Option PR :=
  match σ with
  | (pc, L, Sum.inr (Sum.inr x) :: Sum.inr (Sum.inr a) :: st, lay, nx, h) => if 0 < a ∧ kd lay a = (0, q.2.2.1) ∧ 0 < x then pnext (pc + 3) L (st) lay nx (rup h a q.2.2.2.1 x) else none
  | _ => none
def s_iald (q : PI) (σ : PS) : Option PR :=
  match σ with
  | (pc, L, Sum.inl i :: Sum.inr (Sum.inr a) :: st, lay, nx, h) => if 0 < a ∧ ak lay a = 1 ∧ 0 ≤ i ∧ i < al lay a then pnext (pc + 1) L (pI (h.1 a i) :: st) lay nx h else none
  | _ => none
def s_iast (q : PI) (σ : PS) : Option PR :=
  match σ with
  | (pc, L, Sum.inl x :: Sum.inl i :: Sum.inr (Sum.inr a) :: st, lay, nx, h) => if 0 < a ∧ ak lay a = 1 ∧ 0 ≤ i ∧ i < al lay a then pnext (pc + 1) L (st) lay nx (pup h a i x) else none
  | _ => none
def s_lald (q : PI) (σ : PS) : Option PR :=
  match σ with
  | (pc, L, Sum.inl i :: Sum.inr (Sum.inr a) :: st, lay, nx, h) => if 0 < a ∧ ak lay a = 2 ∧ 0 ≤ i ∧ i < al lay a then pnext (pc + 1) L (pJ (h.1 a i) :: st) lay nx h else none
  | _ => none
def s_last (q : PI) (σ : PS) : Option PR :=
  match σ with
  | (pc, L, Sum.inr (Sum.inl x) :: Sum.inl i :: Sum.inr (Sum.inr a) :: st, lay, nx, h) => if 0 < a ∧ ak lay a = 2 ∧ 0 ≤ i ∧ i < al lay a then pnext (pc + 1) L (st) lay nx (pup h a i x) else none
  | _ => none
def s_bald (q : PI) (σ : PS) : Option PR :=
  match σ with
  | (pc, L, Sum.inl i :: Sum.inr (Sum.inr a) :: st, lay, nx, h) => if 0 < a ∧ ak lay a = 3 ∧ 0 ≤ i ∧ i < al lay a then pnext (pc + 1) L (pI (h.1 a i) :: st) lay nx h else none
  | _ => none
def s_bast (q : PI) (σ : PS) : Option PR :=
  match σ with
  | (pc, L, Sum.inl x :: Sum.inl i :: Sum.inr (Sum.inr a) :: st, lay, nx, h) => if 0 < a ∧ ak lay a = 3 ∧ 0 ≤ i ∧ i < al lay a then pnext (pc + 1) L (st) lay nx (pup h a i (w8 x)) else none
  | _ => none
def s_zald (q : PI) (σ : PS) : Option PR :=
  match σ with
  | (pc, L, Sum.inl i :: Sum.inr (Sum.inr a) :: st, lay, nx, h) => if 0 < a ∧ ak lay a = 4 ∧ 0 ≤ i ∧ i < al lay a then pnext (pc + 1) L (pI (h.1 a i) :: st) lay nx h else none
  | _ => none
def s_zast (q : PI) (σ : PS) : Option PR :=
  match σ with
  | (pc, L, Sum.inl x :: Sum.inl i :: Sum.inr (Sum.inr a) :: st, lay, nx, h) => if 0 < a ∧ ak lay a = 4 ∧ 0 ≤ i ∧ i < al lay a ∧ (x = 0 ∨ x = 1) then pnext (pc + 1) L (st) lay nx (pup h a i x) else none
  | _ => none
def s_aald (q : PI) (σ : PS) : Option PR :=
  match σ with
  | (pc, L, Sum.inl i :: Sum.inr (Sum.inr a) :: st, lay, nx, h) => if 0 < a ∧ ak lay a = 5 ∧ 0 ≤ i ∧ i < al lay a ∧ 0 < h.2.1 a i then pnext (pc + 1) L (pR (h.2.1 a i) :: st) lay nx h else none
  | _ => none
def s_aast (q : PI) (σ : PS) : Option PR :=
  match σ with
  | (pc, L, Sum.inr (Sum.inr x) :: Sum.inl i :: Sum.inr (Sum.inr a) :: st, lay, nx, h) => if 0 < a ∧ ak lay a = 5 ∧ 0 ≤ i ∧ i < al lay a ∧ 0 < x ∧ kd lay x = (0, 5) then pnext (pc + 1) L (st) lay nx (rup h a i x) else none
  | _ => none
def s_alen (q : PI) (σ : PS) : Option PR :=
  match σ with
  | (pc, L, Sum.inr (Sum.inr a) :: st, lay, nx, h) => if 0 < a ∧ (ak lay a = 1 ∨ ak lay a = 2 ∨ ak lay a = 3) ∧ al lay a < 2147483648 then pnext (pc + 1) L (pI (al lay a) :: st) lay nx h else none
  | _ => none
def s_newa (q : PI) (σ : PS) : Option PR :=
  match σ with
  | (pc, L, Sum.inl n :: st, lay, nx, h) => if 0 ≤ n ∧ n ≤ 100000 ∧ (q.2.1 = 1 ∨ q.2.1 = 2 ∨ q.2.1 = 3 ∨ q.2.1 = 4) then pnext (pc + 2) L (pR ((lay.length : Int) + 1) :: st) (lay ++ [(q.2.1, n.toNat)]) nx (pzero h ((lay.length : Int) + 1)) else none
  | _ => none
def s_newq (q : PI) (σ : PS) : Option PR :=
  match σ with
  | (pc, L, Sum.inl n :: st, lay, nx, h) => if 0 ≤ n ∧ n ≤ 100000 then pnext (pc + 3) L (pR ((lay.length : Int) + 1) :: st) (lay ++ [(5, n.toNat)]) nx (pzero h ((lay.length : Int) + 1)) else none
  | _ => none
def s_new (q : PI) (σ : PS) : Option PR :=
  match σ with
  | (pc, L, st, lay, nx, h) => pnext (pc + 3) L (pR ((lay.length : Int) + 1) :: st) (lay ++ [(0, q.2.1)]) nx (pzero h ((lay.length : Int) + 1))
/-- the class of a method's object, by its number -/
def pcls : List Nat := [0, 0, 0, 0, 0, 0, 0, 0, 0, 0, 0, 1, 1, 1, 1, 1, 1, 1, 2, 2, 2, 2, 2, 2, 3, 3, 3, 3, 3, 3, 3, 3, 3, 3, 3, 3, 3, 3, 3, 3, 3, 4, 4, 4, 4, 4, 4, 4, 4, 4, 4, 4, 4, 5, 5, 5, 5, 5, 5, 5, 5, 5, 5, 5, 5, 5, 5, 5, 5, 5, 5, 5, 6, 6, 6, 6, 6, 6, 6, 6, 6, 6, 6, 7, 7, 7, 7, 7, 7, 7, 7, 7, 7, 7, 7, 7, 7, 7, 7, 7, 7, 7, 7, 7, 7, 7, 7, 7, 7, 7, 7, 7, 7, 7, 7, 7, 7, 7, 7, 7, 7, 7, 7, 7, 7, 8, 8, 8, 8, 8, 8, 8, 8, 8, 8, 8, 8, 8, 8, 8, 8, 8, 8, 8, 8, 8, 8, 8, 8, 8, 8, 8, 8, 8, 8, 8, 8, 8, 8, 8, 8, 8, 8, 8, 8, 8, 8, 8, 8, 8, 8, 8, 8, 8, 8, 8, 8, 8, 8, 8, 8, 8, 8, 8, 8, 8, 8, 8, 8, 8, 8, 8, 8, 8, 8, 8, 8, 8, 8, 8, 8, 8, 8, 8, 8, 8, 8, 8, 8, 8, 8, 8, 8, 8, 8, 8, 8, 8, 8, 8, 8, 8, 8, 8, 8, 8, 8, 8, 99, 99, 99, 99, 99, 99, 99, 99, 99, 99, 99, 99, 99, 99, 99, 99, 99, 99, 99, 99, 99, 99, 99, 99, 99, 99, 99, 99, 99, 99]
def s_ivS (q : PI) (σ : PS) : Option PR :=
  match σ with
  | (pc, L, st, lay, nx, h) => if q.2.2.1 ≤ st.length ∧ pcats (st.drop q.2.2.1) ≤ 8 then some (Sum.inr (Sum.inl (q.2.1, (st.take q.2.2.1).reverse, pc + 3, st.drop q.2.2.1))) else none
def s_ivV (q : PI) (σ : PS) : Option PR :=
  match σ with
  | (pc, L, st, lay, nx, h) => match (st.take q.2.2.1).reverse with
    | Sum.inr (Sum.inr a) :: As => if q.2.2.1 ≤ st.length ∧ pcats (st.drop q.2.2.1) ≤ 8 ∧ 0 < a ∧ kd lay a = (0, pcls.getD q.2.1 99) then some (Sum.inr (Sum.inl (q.2.1, Sum.inr (Sum.inr a) :: As, pc + 3, st.drop q.2.2.1))) else none
    | _ => none
def s_ivI (q : PI) (σ : PS) : Option PR :=
  match σ with
  | (pc, L, st, lay, nx, h) => match (st.take q.2.2.1).reverse with
    | Sum.inr (Sum.inr a) :: As => if q.2.2.1 ≤ st.length ∧ pcats (st.drop q.2.2.1) ≤ 8 then some (Sum.inr (Sum.inl (q.2.1, Sum.inr (Sum.inr a) :: As, pc + 3, st.drop q.2.2.1))) else none
    | _ => none
def s_ivN (q : PI) (σ : PS) : Option PR :=
  match σ with
  | (pc, L, st, lay, nx, h) => match (st.take q.2.2.1).reverse with
    | Sum.inr (Sum.inr a) :: As => if q.2.2.1 ≤ st.length ∧ pcats (st.drop q.2.2.1) ≤ 8 then some (Sum.inr (Sum.inl (q.2.1, Sum.inr (Sum.inr a) :: As, pc + 3, st.drop q.2.2.1))) else none
    | _ => none
def s_oinit (q : PI) (σ : PS) : Option PR :=
  match σ with
  | (pc, L, Sum.inr (Sum.inr a) :: st, lay, nx, h) => if 0 < a ∧ pcats st ≤ 8 then pnext (pc + 3) L (st) lay nx h else none
  | _ => none
def s_acopy (q : PI) (σ : PS) : Option PR :=
  match σ with
  | (pc, L, Sum.inl n :: Sum.inl dp :: Sum.inr (Sum.inr b) :: Sum.inl sp :: Sum.inr (Sum.inr a) :: st, lay, nx, h) => if 0 < a ∧ 0 < b ∧ ak lay a = 1 ∧ ak lay b = 1 ∧ 0 ≤ sp ∧ 0 ≤ dp ∧ 0 ≤ n ∧ sp + n ≤ al lay a ∧ dp + n ≤ al lay b ∧ pcats st ≤ 8 then pnext (pc + 3) L (st) lay nx (pcpy h a sp b dp n) else none
  | _ => none
def s_throw (q : PI) (σ : PS) : Option PR :=
  match σ with
  | (_, _, st, _, _, _) => if pcats st ≤ 8 ∧ q.2.1 < 3 then some (Sum.inr (Sum.inr (Sum.inr q.2.1))) else none
def s_ldcs (q : PI) (σ : PS) : Option PR :=
  match σ with
  | (pc, L, st, lay, nx, h) => pnext (pc + 2) L (pR (-((q.2.1 : Int) + 1)) :: st) lay nx h
def s_sld (q : PI) (σ : PS) : Option PR :=
  match σ with
  | (pc, L, Sum.inl i :: Sum.inr (Sum.inr a) :: st, lay, nx, h) => if a = -1000 ∧ 0 ≤ i ∧ i < h.2.2 (-1) then pnext (pc + 1) L (pI (h.2.2 i) :: st) lay nx h else none
  | _ => none
def s_slen (q : PI) (σ : PS) : Option PR :=
  match σ with
  | (pc, L, Sum.inr (Sum.inr a) :: st, lay, nx, h) => if a = -1000 then pnext (pc + 1) L (pI (h.2.2 (-1)) :: st) lay nx h else none
  | _ => none
def s_iret (q : PI) (σ : PS) : Option PR :=
  match σ with
  | (_, _, [Sum.inl x], _, _, _) => some (Sum.inr (Sum.inr (Sum.inl (some (pI x)))))
  | _ => none
def s_zret (q : PI) (σ : PS) : Option PR :=
  match σ with
  | (_, _, [Sum.inl x], _, _, _) => if x = 0 ∨ x = 1 then some (Sum.inr (Sum.inr (Sum.inl (some (pI x))))) else none
  | _ => none
def s_lret (q : PI) (σ : PS) : Option PR :=
  match σ with
  | (_, _, [Sum.inr (Sum.inl x)], _, _, _) => some (Sum.inr (Sum.inr (Sum.inl (some (pJ x)))))
  | _ => none
def s_vret (q : PI) (σ : PS) : Option PR :=
  match σ with
  | (_, _, [], _, _, _) => some (Sum.inr (Sum.inr (Sum.inl none)))
  | _ => none
def s_slength (q : PI) (σ : PS) : Option PR :=
  match σ with
  | (pc, L, Sum.inr (Sum.inr a) :: st, lay, nx, h) => if -7 ≤ a ∧ a < 0 ∧ pcats st ≤ 8 then pnext (pc + 3) L (pI (pstrLen a) :: st) lay nx h else none
  | _ => none
def s_scharAt (q : PI) (σ : PS) : Option PR :=
  match σ with
  | (pc, L, Sum.inl i :: Sum.inr (Sum.inr a) :: st, lay, nx, h) => if -7 ≤ a ∧ a < 0 ∧ 0 ≤ i ∧ i < pstrLen a ∧ pcats st ≤ 8 then pnext (pc + 3) L (pI (pstrAt a i) :: st) lay nx h else none
  | _ => none
def s_mmin (q : PI) (σ : PS) : Option PR :=
  match σ with
  | (pc, L, Sum.inl y :: Sum.inl x :: st, lay, nx, h) => if pcats st ≤ 8 then pnext (pc + 3) L (pI (if y < x then y else x) :: st) lay nx h else none
  | _ => none
def s_mmax (q : PI) (σ : PS) : Option PR :=
  match σ with
  | (pc, L, Sum.inl y :: Sum.inl x :: st, lay, nx, h) => if pcats st ≤ 8 then pnext (pc + 3) L (pI (if x < y then y else x) :: st) lay nx h else none
  | _ => none
def s_stuck (_ : PI) (_ : PS) : Option PR := none
def semTab : List (PI → PS → Option PR) := [s_stuck, s_iconst, s_bipush, s_sipush, s_lconst, s_ldci, s_iload_n, s_iload, s_lload_n, s_lload, s_aload_n, s_aload, s_istore_n, s_istore, s_lstore_n, s_lstore, s_astore_n, s_astore, s_iinc, s_iadd, s_isub, s_imul, s_iand, s_ior, s_idiv, s_irem, s_ishl, s_ishr, s_iushr, s_ladd, s_lsub, s_lmul, s_lor, s_lshl, s_lcmp, s_i2l, s_l2i, s_i2b, s_dup, s_dup2, s_pop, s_if_eq, s_if_ne, s_if_lt, s_if_ge, s_if_gt, s_if_le, s_icmp_eq, s_icmp_ne, s_icmp_lt, s_icmp_ge, s_icmp_gt, s_icmp_le, s_goto, s_tswitch, s_getI, s_getJ, s_getR, s_putI, s_putZ, s_putJ, s_putR, s_putF, s_iald, s_iast, s_lald, s_last, s_bald, s_bast, s_zald, s_zast, s_aald, s_aast, s_alen, s_newa, s_newq, s_new, s_ivS, s_ivV, s_ivI, s_ivN, s_oinit, s_acopy, s_throw, s_ldcs, s_sld, s_slen, s_iret, s_zret, s_lret, s_vret, s_slength, s_scharAt, s_mmin, s_mmax]
def pstep (q : PI) (σ : PS) : Option PR := (semTab.getD q.1 s_stuck) q σ
