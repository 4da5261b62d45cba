/-- a method's context -/
def CX (p : Program) (l : Launch) (R : Room) (s : State) (m : MethodId) (args : Array Value) (meth : Method) (c : Code) (A : Nat → Prop) (adK adV : Nat → Nat) (b Ls : Nat) (xs : Nat → Int32) (x : MI) : Prop :=
  (p.tables.exec = Jvm.exec ∧ c.code = x.2.1 ∧ meth.sig.returnType = x.2.2.2.1 ∧ c.maxLocals = x.2.2.1 ∧ s.vm.findClass x.1.cls = some m.cls) ∧
  ((∀ w ∈ GT, w.before args s = true) ∧ meth.locks = false ∧ c.exceptionTable.toList = tableOf x.2.2.2.2.1 ∧ (x.1.name = "<init>" → meth.name = "<init>")) ∧
  (x.2.2.2.2.2.1 ≤ R.frames ∧ 41 * x.2.2.2.2.2.1 ≤ R.locals ∧ (∀ q, s.heap.size ≤ q → A q) ∧ EnvR s A adK adV b Ls xs ∧ l.stackTraces = false)
theorem uGT : ∀ ci : Nat, ci < 9 → ∀ r : vw_C, vwCl[ci]? = some r → ∀ w ∈ u_ws r.1 r.2.1 r.2.2, w ∈ GT := by
  have h0 : ∀ w ∈ u_ws RX0 TX0 8, w ∈ GT := by decide +kernel
  have h1 : ∀ w ∈ u_ws RX1 TX1 5, w ∈ GT := by decide +kernel
  have h2 : ∀ w ∈ u_ws RX2 TX2 11, w ∈ GT := by decide +kernel
  have h3 : ∀ w ∈ u_ws RX3 TX3 9, w ∈ GT := by decide +kernel
  have h4 : ∀ w ∈ u_ws RX4 TX4 8, w ∈ GT := by decide +kernel
  have h5 : ∀ w ∈ u_ws RX5 TX5 15, w ∈ GT := by decide +kernel
  have h6 : ∀ w ∈ u_ws RX6 TX6 4, w ∈ GT := by decide +kernel
  have h7 : ∀ w ∈ u_ws RX7 TX7 8, w ∈ GT := by decide +kernel
  have h8 : ∀ w ∈ u_ws RX8 TX8 30, w ∈ GT := by decide +kernel
  intro ci hci r hr
  match ci, hr with
  | 0, hr => cases hr; exact h0
  | 1, hr => cases hr; exact h1
  | 2, hr => cases hr; exact h2
  | 3, hr => cases hr; exact h3
  | 4, hr => cases hr; exact h4
  | 5, hr => cases hr; exact h5
  | 6, hr => cases hr; exact h6
  | 7, hr => cases hr; exact h7
  | 8, hr => cases hr; exact h8
  | k + 9, hr => simp [vwCl] at hr
theorem newGT : ∀ ci : Nat, ci < 9 → ∀ r : vw_C, vwCl[ci]? = some r → Cond.instantiable r.1 r.2.2 ∈ GT ∧ Cond.initialized r.1 ∈ GT := by
  have h : vwCl.all (fun r => decide (Cond.instantiable r.1 r.2.2 ∈ GT ∧ Cond.initialized r.1 ∈ GT)) = true := by decide +kernel
  intro ci _ r hr
  exact of_decide_eq_true (List.all_eq_true.mp h r (List.mem_of_getElem? hr))
theorem miscGT : (Cond.instanceMethod objectInit ∈ GT ∧ Cond.code objectInit ⟨#[0xb1]⟩ 1 none ∈ GT) ∧ (Cond.native arraycopyName ∈ GT ∧ Cond.static arraycopyName ∈ GT ∧ Cond.initialized "java/lang/System" ∈ GT) ∧ (Cond.arrayClass .int ∈ GT ∧ Cond.arrayClass .long ∈ GT ∧ Cond.arrayClass .byte ∈ GT ∧ Cond.arrayClass .boolean ∈ GT) := by decide +kernel
theorem jq {n : Nat} {hj : Bool} (h : n ≠ 0 ∨ (!hj) = true) : n = 0 → hj = false := fun z => by
  rcases h with h | h
  · exact absurd z h
  · simpa using h
section K1
variable {p : Program} {l : Launch} {e : Env} {R : Room} {s : State} {m : MethodId} {args : Array Value} {below : List Frame} {meth : Method} {c : Code} {Q : State → Prop} {D : va_G} {A : Nat → Prop} {adK adV : Nat → Nat} {b Ls : Nat} {xs : Nat → Int32} {c0 s0 : Nat} {ads0 : List Nat} {q : PI} {σ σ' : PS} {x : MI}
theorem CX.wd (C : CX p l R s m args meth c A adK adV b Ls xs x) {w : Cond} (h : w ∈ GT) : w.before args s = true := C.2.1.1 w h
theorem CX.gw (C : CX p l R s m args meth c A adK adV b Ls xs x) {i : Nat} {w : Cond} (h : gw i w = true) : w.before args s = true := C.2.1.1 w (gw_in h)

theorem k_iconst (C : CX p l R s m args meth c A adK adV b Ls xs x) (hc : c_iconst x σ.1 q = true) (hs : s_iconst q σ = some (Sum.inl σ')) (hrb : RB R c0 s0 σ') (k : Go p l e R s m args below meth c Q D A adK b Ls xs x.2.2.1 x.2.2.2.2.2.2 c0 s0 ads0 σ') : Go p l e R s m args below meth c Q D A adK b Ls xs x.2.2.1 x.2.2.2.2.2.2 c0 s0 ads0 σ := by
  simp only [c_iconst, Bool.and_eq_true, decide_eq_true_eq] at hc
  exact g_iconst C.1.1 C.1.2.1 hc.2.1 hc.2.2 hc.1 hs k

theorem k_bipush (C : CX p l R s m args meth c A adK adV b Ls xs x) (hc : c_bipush x σ.1 q = true) (hs : s_bipush q σ = some (Sum.inl σ')) (hrb : RB R c0 s0 σ') (k : Go p l e R s m args below meth c Q D A adK b Ls xs x.2.2.1 x.2.2.2.2.2.2 c0 s0 ads0 σ') : Go p l e R s m args below meth c Q D A adK b Ls xs x.2.2.1 x.2.2.2.2.2.2 c0 s0 ads0 σ := by
  simp only [c_bipush, Bool.and_eq_true, decide_eq_true_eq] at hc
  exact g_bipush C.1.1 C.1.2.1 hc.2.1 hc.2.2 hc.1 hs k

theorem k_sipush (C : CX p l R s m args meth c A adK adV b Ls xs x) (hc : c_sipush x σ.1 q = true) (hs : s_sipush q σ = some (Sum.inl σ')) (hrb : RB R c0 s0 σ') (k : Go p l e R s m args below meth c Q D A adK b Ls xs x.2.2.1 x.2.2.2.2.2.2 c0 s0 ads0 σ') : Go p l e R s m args below meth c Q D A adK b Ls xs x.2.2.1 x.2.2.2.2.2.2 c0 s0 ads0 σ := by
  simp only [c_sipush, Bool.and_eq_true, decide_eq_true_eq] at hc
  exact g_sipush C.1.1 C.1.2.1 hc.2.1 hc.2.2 hc.1 hs k

theorem k_lconst (C : CX p l R s m args meth c A adK adV b Ls xs x) (hc : c_lconst x σ.1 q = true) (hs : s_lconst q σ = some (Sum.inl σ')) (hrb : RB R c0 s0 σ') (k : Go p l e R s m args below meth c Q D A adK b Ls xs x.2.2.1 x.2.2.2.2.2.2 c0 s0 ads0 σ') : Go p l e R s m args below meth c Q D A adK b Ls xs x.2.2.1 x.2.2.2.2.2.2 c0 s0 ads0 σ := by
  unfold c_lconst at hc
  split at hc
  · rename_i n heq
    exact g_lconst C.1.1 C.1.2.1 (of_decide_eq_true hc) heq hs k
  · cases hc

theorem k_ldci (C : CX p l R s m args meth c A adK adV b Ls xs x) (hc : c_ldci x σ.1 q = true) (hs : s_ldci q σ = some (Sum.inl σ')) (hrb : RB R c0 s0 σ') (k : Go p l e R s m args below meth c Q D A adK b Ls xs x.2.2.1 x.2.2.2.2.2.2 c0 s0 ads0 σ') : Go p l e R s m args below meth c Q D A adK b Ls xs x.2.2.1 x.2.2.2.2.2.2 c0 s0 ads0 σ := by
  simp only [c_ldci, Bool.and_eq_true, decide_eq_true_eq] at hc
  exact g_ldci C.1.1 C.1.2.1 C.1.2.2.2.2 (C.gw hc.2.1) hc.2.2 hc.1 hs k

theorem k_iload_n (C : CX p l R s m args meth c A adK adV b Ls xs x) (hc : c_iload_n x σ.1 q = true) (hs : s_iload_n q σ = some (Sum.inl σ')) (hrb : RB R c0 s0 σ') (k : Go p l e R s m args below meth c Q D A adK b Ls xs x.2.2.1 x.2.2.2.2.2.2 c0 s0 ads0 σ') : Go p l e R s m args below meth c Q D A adK b Ls xs x.2.2.1 x.2.2.2.2.2.2 c0 s0 ads0 σ := by
  unfold c_iload_n at hc
  split at hc
  · rename_i n heq
    exact g_iload_n C.1.1 C.1.2.1 (of_decide_eq_true hc) heq hs k
  · cases hc

theorem k_iload (C : CX p l R s m args meth c A adK adV b Ls xs x) (hc : c_iload x σ.1 q = true) (hs : s_iload q σ = some (Sum.inl σ')) (hrb : RB R c0 s0 σ') (k : Go p l e R s m args below meth c Q D A adK b Ls xs x.2.2.1 x.2.2.2.2.2.2 c0 s0 ads0 σ') : Go p l e R s m args below meth c Q D A adK b Ls xs x.2.2.1 x.2.2.2.2.2.2 c0 s0 ads0 σ := by
  simp only [c_iload, decide_eq_true_eq] at hc
  exact g_iload C.1.1 C.1.2.1 hc hs k

theorem k_lload_n (C : CX p l R s m args meth c A adK adV b Ls xs x) (hc : c_lload_n x σ.1 q = true) (hs : s_lload_n q σ = some (Sum.inl σ')) (hrb : RB R c0 s0 σ') (k : Go p l e R s m args below meth c Q D A adK b Ls xs x.2.2.1 x.2.2.2.2.2.2 c0 s0 ads0 σ') : Go p l e R s m args below meth c Q D A adK b Ls xs x.2.2.1 x.2.2.2.2.2.2 c0 s0 ads0 σ := by
  unfold c_lload_n at hc
  split at hc
  · rename_i n heq
    exact g_lload_n C.1.1 C.1.2.1 (of_decide_eq_true hc) heq hs k
  · cases hc

theorem k_lload (C : CX p l R s m args meth c A adK adV b Ls xs x) (hc : c_lload x σ.1 q = true) (hs : s_lload q σ = some (Sum.inl σ')) (hrb : RB R c0 s0 σ') (k : Go p l e R s m args below meth c Q D A adK b Ls xs x.2.2.1 x.2.2.2.2.2.2 c0 s0 ads0 σ') : Go p l e R s m args below meth c Q D A adK b Ls xs x.2.2.1 x.2.2.2.2.2.2 c0 s0 ads0 σ := by
  simp only [c_lload, decide_eq_true_eq] at hc
  exact g_lload C.1.1 C.1.2.1 hc hs k

theorem k_aload_n (C : CX p l R s m args meth c A adK adV b Ls xs x) (hc : c_aload_n x σ.1 q = true) (hs : s_aload_n q σ = some (Sum.inl σ')) (hrb : RB R c0 s0 σ') (k : Go p l e R s m args below meth c Q D A adK b Ls xs x.2.2.1 x.2.2.2.2.2.2 c0 s0 ads0 σ') : Go p l e R s m args below meth c Q D A adK b Ls xs x.2.2.1 x.2.2.2.2.2.2 c0 s0 ads0 σ := by
  unfold c_aload_n at hc
  split at hc
  · rename_i n heq
    exact g_aload_n C.1.1 C.1.2.1 (of_decide_eq_true hc) heq hs k
  · cases hc

theorem k_aload (C : CX p l R s m args meth c A adK adV b Ls xs x) (hc : c_aload x σ.1 q = true) (hs : s_aload q σ = some (Sum.inl σ')) (hrb : RB R c0 s0 σ') (k : Go p l e R s m args below meth c Q D A adK b Ls xs x.2.2.1 x.2.2.2.2.2.2 c0 s0 ads0 σ') : Go p l e R s m args below meth c Q D A adK b Ls xs x.2.2.1 x.2.2.2.2.2.2 c0 s0 ads0 σ := by
  simp only [c_aload, decide_eq_true_eq] at hc
  exact g_aload C.1.1 C.1.2.1 hc hs k

theorem k_istore_n (C : CX p l R s m args meth c A adK adV b Ls xs x) (hc : c_istore_n x σ.1 q = true) (hs : s_istore_n q σ = some (Sum.inl σ')) (hrb : RB R c0 s0 σ') (k : Go p l e R s m args below meth c Q D A adK b Ls xs x.2.2.1 x.2.2.2.2.2.2 c0 s0 ads0 σ') : Go p l e R s m args below meth c Q D A adK b Ls xs x.2.2.1 x.2.2.2.2.2.2 c0 s0 ads0 σ := by
  simp only [c_istore_n, Bool.and_eq_true, Bool.or_eq_true, decide_eq_true_eq] at hc
  obtain ⟨h1, h2⟩ := hc
  split at h1
  · rename_i n heq
    exact g_istore_n C.1.1 C.1.2.1 (of_decide_eq_true h1) h2.1 (jq h2.2) heq hs k
  · cases h1

theorem k_istore (C : CX p l R s m args meth c A adK adV b Ls xs x) (hc : c_istore x σ.1 q = true) (hs : s_istore q σ = some (Sum.inl σ')) (hrb : RB R c0 s0 σ') (k : Go p l e R s m args below meth c Q D A adK b Ls xs x.2.2.1 x.2.2.2.2.2.2 c0 s0 ads0 σ') : Go p l e R s m args below meth c Q D A adK b Ls xs x.2.2.1 x.2.2.2.2.2.2 c0 s0 ads0 σ := by
  simp only [c_istore, Bool.and_eq_true, Bool.or_eq_true, decide_eq_true_eq] at hc
  exact g_istore C.1.1 C.1.2.1 hc.2.1 (jq hc.2.2) hc.1 hs k

theorem k_astore_n (C : CX p l R s m args meth c A adK adV b Ls xs x) (hc : c_astore_n x σ.1 q = true) (hs : s_astore_n q σ = some (Sum.inl σ')) (hrb : RB R c0 s0 σ') (k : Go p l e R s m args below meth c Q D A adK b Ls xs x.2.2.1 x.2.2.2.2.2.2 c0 s0 ads0 σ') : Go p l e R s m args below meth c Q D A adK b Ls xs x.2.2.1 x.2.2.2.2.2.2 c0 s0 ads0 σ := by
  simp only [c_astore_n, Bool.and_eq_true, Bool.or_eq_true, decide_eq_true_eq] at hc
  obtain ⟨h1, h2⟩ := hc
  split at h1
  · rename_i n heq
    exact g_astore_n C.1.1 C.1.2.1 (of_decide_eq_true h1) h2.1 (jq h2.2) heq hs k
  · cases h1

theorem k_astore (C : CX p l R s m args meth c A adK adV b Ls xs x) (hc : c_astore x σ.1 q = true) (hs : s_astore q σ = some (Sum.inl σ')) (hrb : RB R c0 s0 σ') (k : Go p l e R s m args below meth c Q D A adK b Ls xs x.2.2.1 x.2.2.2.2.2.2 c0 s0 ads0 σ') : Go p l e R s m args below meth c Q D A adK b Ls xs x.2.2.1 x.2.2.2.2.2.2 c0 s0 ads0 σ := by
  simp only [c_astore, Bool.and_eq_true, Bool.or_eq_true, decide_eq_true_eq] at hc
  exact g_astore C.1.1 C.1.2.1 hc.2.1 (jq hc.2.2) hc.1 hs k

theorem k_lstore_n (C : CX p l R s m args meth c A adK adV b Ls xs x) (hc : c_lstore_n x σ.1 q = true) (hs : s_lstore_n q σ = some (Sum.inl σ')) (hrb : RB R c0 s0 σ') (k : Go p l e R s m args below meth c Q D A adK b Ls xs x.2.2.1 x.2.2.2.2.2.2 c0 s0 ads0 σ') : Go p l e R s m args below meth c Q D A adK b Ls xs x.2.2.1 x.2.2.2.2.2.2 c0 s0 ads0 σ := by
  simp only [c_lstore_n, Bool.and_eq_true, decide_eq_true_eq] at hc
  obtain ⟨h1, h2⟩ := hc
  split at h1
  · rename_i n heq
    exact g_lstore_n C.1.1 C.1.2.1 (of_decide_eq_true h1) h2.1 h2.2 heq hs k
  · cases h1

theorem k_lstore (C : CX p l R s m args meth c A adK adV b Ls xs x) (hc : c_lstore x σ.1 q = true) (hs : s_lstore q σ = some (Sum.inl σ')) (hrb : RB R c0 s0 σ') (k : Go p l e R s m args below meth c Q D A adK b Ls xs x.2.2.1 x.2.2.2.2.2.2 c0 s0 ads0 σ') : Go p l e R s m args below meth c Q D A adK b Ls xs x.2.2.1 x.2.2.2.2.2.2 c0 s0 ads0 σ := by
  simp only [c_lstore, Bool.and_eq_true, decide_eq_true_eq] at hc
  exact g_lstore C.1.1 C.1.2.1 hc.2.1 hc.2.2 hc.1 hs k

theorem k_iinc (C : CX p l R s m args meth c A adK adV b Ls xs x) (hc : c_iinc x σ.1 q = true) (hs : s_iinc q σ = some (Sum.inl σ')) (hrb : RB R c0 s0 σ') (k : Go p l e R s m args below meth c Q D A adK b Ls xs x.2.2.1 x.2.2.2.2.2.2 c0 s0 ads0 σ') : Go p l e R s m args below meth c Q D A adK b Ls xs x.2.2.1 x.2.2.2.2.2.2 c0 s0 ads0 σ := by
  simp only [c_iinc, Bool.and_eq_true, Bool.or_eq_true, decide_eq_true_eq] at hc
  exact g_iinc C.1.1 C.1.2.1 hc.2.1 (jq hc.2.2) hc.1 hs k

theorem k_iadd (C : CX p l R s m args meth c A adK adV b Ls xs x) (hc : c_iadd x σ.1 q = true) (hs : s_iadd q σ = some (Sum.inl σ')) (hrb : RB R c0 s0 σ') (k : Go p l e R s m args below meth c Q D A adK b Ls xs x.2.2.1 x.2.2.2.2.2.2 c0 s0 ads0 σ') : Go p l e R s m args below meth c Q D A adK b Ls xs x.2.2.1 x.2.2.2.2.2.2 c0 s0 ads0 σ := by
  exact g_iadd C.1.1 C.1.2.1 (of_decide_eq_true hc) hs k

theorem k_isub (C : CX p l R s m args meth c A adK adV b Ls xs x) (hc : c_isub x σ.1 q = true) (hs : s_isub q σ = some (Sum.inl σ')) (hrb : RB R c0 s0 σ') (k : Go p l e R s m args below meth c Q D A adK b Ls xs x.2.2.1 x.2.2.2.2.2.2 c0 s0 ads0 σ') : Go p l e R s m args below meth c Q D A adK b Ls xs x.2.2.1 x.2.2.2.2.2.2 c0 s0 ads0 σ := by
  exact g_isub C.1.1 C.1.2.1 (of_decide_eq_true hc) hs k

theorem k_imul (C : CX p l R s m args meth c A adK adV b Ls xs x) (hc : c_imul x σ.1 q = true) (hs : s_imul q σ = some (Sum.inl σ')) (hrb : RB R c0 s0 σ') (k : Go p l e R s m args below meth c Q D A adK b Ls xs x.2.2.1 x.2.2.2.2.2.2 c0 s0 ads0 σ') : Go p l e R s m args below meth c Q D A adK b Ls xs x.2.2.1 x.2.2.2.2.2.2 c0 s0 ads0 σ := by
  exact g_imul C.1.1 C.1.2.1 (of_decide_eq_true hc) hs k

theorem k_iand (C : CX p l R s m args meth c A adK adV b Ls xs x) (hc : c_iand x σ.1 q = true) (hs : s_iand q σ = some (Sum.inl σ')) (hrb : RB R c0 s0 σ') (k : Go p l e R s m args below meth c Q D A adK b Ls xs x.2.2.1 x.2.2.2.2.2.2 c0 s0 ads0 σ') : Go p l e R s m args below meth c Q D A adK b Ls xs x.2.2.1 x.2.2.2.2.2.2 c0 s0 ads0 σ := by
  exact g_iand C.1.1 C.1.2.1 (of_decide_eq_true hc) hs k

theorem k_ior (C : CX p l R s m args meth c A adK adV b Ls xs x) (hc : c_ior x σ.1 q = true) (hs : s_ior q σ = some (Sum.inl σ')) (hrb : RB R c0 s0 σ') (k : Go p l e R s m args below meth c Q D A adK b Ls xs x.2.2.1 x.2.2.2.2.2.2 c0 s0 ads0 σ') : Go p l e R s m args below meth c Q D A adK b Ls xs x.2.2.1 x.2.2.2.2.2.2 c0 s0 ads0 σ := by
  exact g_ior C.1.1 C.1.2.1 (of_decide_eq_true hc) hs k

theorem k_idiv (C : CX p l R s m args meth c A adK adV b Ls xs x) (hc : c_idiv x σ.1 q = true) (hs : s_idiv q σ = some (Sum.inl σ')) (hrb : RB R c0 s0 σ') (k : Go p l e R s m args below meth c Q D A adK b Ls xs x.2.2.1 x.2.2.2.2.2.2 c0 s0 ads0 σ') : Go p l e R s m args below meth c Q D A adK b Ls xs x.2.2.1 x.2.2.2.2.2.2 c0 s0 ads0 σ := by
  exact g_idiv C.1.1 C.1.2.1 (of_decide_eq_true hc) hs k

theorem k_irem (C : CX p l R s m args meth c A adK adV b Ls xs x) (hc : c_irem x σ.1 q = true) (hs : s_irem q σ = some (Sum.inl σ')) (hrb : RB R c0 s0 σ') (k : Go p l e R s m args below meth c Q D A adK b Ls xs x.2.2.1 x.2.2.2.2.2.2 c0 s0 ads0 σ') : Go p l e R s m args below meth c Q D A adK b Ls xs x.2.2.1 x.2.2.2.2.2.2 c0 s0 ads0 σ := by
  exact g_irem C.1.1 C.1.2.1 (of_decide_eq_true hc) hs k

theorem k_ishl (C : CX p l R s m args meth c A adK adV b Ls xs x) (hc : c_ishl x σ.1 q = true) (hs : s_ishl q σ = some (Sum.inl σ')) (hrb : RB R c0 s0 σ') (k : Go p l e R s m args below meth c Q D A adK b Ls xs x.2.2.1 x.2.2.2.2.2.2 c0 s0 ads0 σ') : Go p l e R s m args below meth c Q D A adK b Ls xs x.2.2.1 x.2.2.2.2.2.2 c0 s0 ads0 σ := by
  exact g_ishl C.1.1 C.1.2.1 (of_decide_eq_true hc) hs k

theorem k_ishr (C : CX p l R s m args meth c A adK adV b Ls xs x) (hc : c_ishr x σ.1 q = true) (hs : s_ishr q σ = some (Sum.inl σ')) (hrb : RB R c0 s0 σ') (k : Go p l e R s m args below meth c Q D A adK b Ls xs x.2.2.1 x.2.2.2.2.2.2 c0 s0 ads0 σ') : Go p l e R s m args below meth c Q D A adK b Ls xs x.2.2.1 x.2.2.2.2.2.2 c0 s0 ads0 σ := by
  exact g_ishr C.1.1 C.1.2.1 (of_decide_eq_true hc) hs k

theorem k_iushr (C : CX p l R s m args meth c A adK adV b Ls xs x) (hc : c_iushr x σ.1 q = true) (hs : s_iushr q σ = some (Sum.inl σ')) (hrb : RB R c0 s0 σ') (k : Go p l e R s m args below meth c Q D A adK b Ls xs x.2.2.1 x.2.2.2.2.2.2 c0 s0 ads0 σ') : Go p l e R s m args below meth c Q D A adK b Ls xs x.2.2.1 x.2.2.2.2.2.2 c0 s0 ads0 σ := by
  exact g_iushr C.1.1 C.1.2.1 (of_decide_eq_true hc) hs k

theorem k_ladd (C : CX p l R s m args meth c A adK adV b Ls xs x) (hc : c_ladd x σ.1 q = true) (hs : s_ladd q σ = some (Sum.inl σ')) (hrb : RB R c0 s0 σ') (k : Go p l e R s m args below meth c Q D A adK b Ls xs x.2.2.1 x.2.2.2.2.2.2 c0 s0 ads0 σ') : Go p l e R s m args below meth c Q D A adK b Ls xs x.2.2.1 x.2.2.2.2.2.2 c0 s0 ads0 σ := by
  exact g_ladd C.1.1 C.1.2.1 (of_decide_eq_true hc) hs k

theorem k_lsub (C : CX p l R s m args meth c A adK adV b Ls xs x) (hc : c_lsub x σ.1 q = true) (hs : s_lsub q σ = some (Sum.inl σ')) (hrb : RB R c0 s0 σ') (k : Go p l e R s m args below meth c Q D A adK b Ls xs x.2.2.1 x.2.2.2.2.2.2 c0 s0 ads0 σ') : Go p l e R s m args below meth c Q D A adK b Ls xs x.2.2.1 x.2.2.2.2.2.2 c0 s0 ads0 σ := by
  exact g_lsub C.1.1 C.1.2.1 (of_decide_eq_true hc) hs k

theorem k_lmul (C : CX p l R s m args meth c A adK adV b Ls xs x) (hc : c_lmul x σ.1 q = true) (hs : s_lmul q σ = some (Sum.inl σ')) (hrb : RB R c0 s0 σ') (k : Go p l e R s m args below meth c Q D A adK b Ls xs x.2.2.1 x.2.2.2.2.2.2 c0 s0 ads0 σ') : Go p l e R s m args below meth c Q D A adK b Ls xs x.2.2.1 x.2.2.2.2.2.2 c0 s0 ads0 σ := by
  exact g_lmul C.1.1 C.1.2.1 (of_decide_eq_true hc) hs k

theorem k_lor (C : CX p l R s m args meth c A adK adV b Ls xs x) (hc : c_lor x σ.1 q = true) (hs : s_lor q σ = some (Sum.inl σ')) (hrb : RB R c0 s0 σ') (k : Go p l e R s m args below meth c Q D A adK b Ls xs x.2.2.1 x.2.2.2.2.2.2 c0 s0 ads0 σ') : Go p l e R s m args below meth c Q D A adK b Ls xs x.2.2.1 x.2.2.2.2.2.2 c0 s0 ads0 σ := by
  exact g_lor C.1.1 C.1.2.1 (of_decide_eq_true hc) hs k

theorem k_lshl (C : CX p l R s m args meth c A adK adV b Ls xs x) (hc : c_lshl x σ.1 q = true) (hs : s_lshl q σ = some (Sum.inl σ')) (hrb : RB R c0 s0 σ') (k : Go p l e R s m args below meth c Q D A adK b Ls xs x.2.2.1 x.2.2.2.2.2.2 c0 s0 ads0 σ') : Go p l e R s m args below meth c Q D A adK b Ls xs x.2.2.1 x.2.2.2.2.2.2 c0 s0 ads0 σ := by
  exact g_lshl C.1.1 C.1.2.1 (of_decide_eq_true hc) hs k

theorem k_lcmp (C : CX p l R s m args meth c A adK adV b Ls xs x) (hc : c_lcmp x σ.1 q = true) (hs : s_lcmp q σ = some (Sum.inl σ')) (hrb : RB R c0 s0 σ') (k : Go p l e R s m args below meth c Q D A adK b Ls xs x.2.2.1 x.2.2.2.2.2.2 c0 s0 ads0 σ') : Go p l e R s m args below meth c Q D A adK b Ls xs x.2.2.1 x.2.2.2.2.2.2 c0 s0 ads0 σ := by
  exact g_lcmp C.1.1 C.1.2.1 (of_decide_eq_true hc) hs k

theorem k_i2l (C : CX p l R s m args meth c A adK adV b Ls xs x) (hc : c_i2l x σ.1 q = true) (hs : s_i2l q σ = some (Sum.inl σ')) (hrb : RB R c0 s0 σ') (k : Go p l e R s m args below meth c Q D A adK b Ls xs x.2.2.1 x.2.2.2.2.2.2 c0 s0 ads0 σ') : Go p l e R s m args below meth c Q D A adK b Ls xs x.2.2.1 x.2.2.2.2.2.2 c0 s0 ads0 σ := by
  exact g_i2l C.1.1 C.1.2.1 (of_decide_eq_true hc) hs k

theorem k_l2i (C : CX p l R s m args meth c A adK adV b Ls xs x) (hc : c_l2i x σ.1 q = true) (hs : s_l2i q σ = some (Sum.inl σ')) (hrb : RB R c0 s0 σ') (k : Go p l e R s m args below meth c Q D A adK b Ls xs x.2.2.1 x.2.2.2.2.2.2 c0 s0 ads0 σ') : Go p l e R s m args below meth c Q D A adK b Ls xs x.2.2.1 x.2.2.2.2.2.2 c0 s0 ads0 σ := by
  exact g_l2i C.1.1 C.1.2.1 (of_decide_eq_true hc) hs k

theorem k_i2b (C : CX p l R s m args meth c A adK adV b Ls xs x) (hc : c_i2b x σ.1 q = true) (hs : s_i2b q σ = some (Sum.inl σ')) (hrb : RB R c0 s0 σ') (k : Go p l e R s m args below meth c Q D A adK b Ls xs x.2.2.1 x.2.2.2.2.2.2 c0 s0 ads0 σ') : Go p l e R s m args below meth c Q D A adK b Ls xs x.2.2.1 x.2.2.2.2.2.2 c0 s0 ads0 σ := by
  exact g_i2b C.1.1 C.1.2.1 (of_decide_eq_true hc) hs k

theorem k_dup (C : CX p l R s m args meth c A adK adV b Ls xs x) (hc : c_dup x σ.1 q = true) (hs : s_dup q σ = some (Sum.inl σ')) (hrb : RB R c0 s0 σ') (k : Go p l e R s m args below meth c Q D A adK b Ls xs x.2.2.1 x.2.2.2.2.2.2 c0 s0 ads0 σ') : Go p l e R s m args below meth c Q D A adK b Ls xs x.2.2.1 x.2.2.2.2.2.2 c0 s0 ads0 σ := by
  exact g_dup C.1.1 C.1.2.1 (of_decide_eq_true hc) hs k

theorem k_dup2 (C : CX p l R s m args meth c A adK adV b Ls xs x) (hc : c_dup2 x σ.1 q = true) (hs : s_dup2 q σ = some (Sum.inl σ')) (hrb : RB R c0 s0 σ') (k : Go p l e R s m args below meth c Q D A adK b Ls xs x.2.2.1 x.2.2.2.2.2.2 c0 s0 ads0 σ') : Go p l e R s m args below meth c Q D A adK b Ls xs x.2.2.1 x.2.2.2.2.2.2 c0 s0 ads0 σ := by
  exact g_dup2 C.1.1 C.1.2.1 (of_decide_eq_true hc) hs k

theorem k_pop (C : CX p l R s m args meth c A adK adV b Ls xs x) (hc : c_pop x σ.1 q = true) (hs : s_pop q σ = some (Sum.inl σ')) (hrb : RB R c0 s0 σ') (k : Go p l e R s m args below meth c Q D A adK b Ls xs x.2.2.1 x.2.2.2.2.2.2 c0 s0 ads0 σ') : Go p l e R s m args below meth c Q D A adK b Ls xs x.2.2.1 x.2.2.2.2.2.2 c0 s0 ads0 σ := by
  exact g_pop C.1.1 C.1.2.1 (of_decide_eq_true hc) hs k

theorem k_if_eq (C : CX p l R s m args meth c A adK adV b Ls xs x) (hc : c_if_eq x σ.1 q = true) (hs : s_if_eq q σ = some (Sum.inl σ')) (hrb : RB R c0 s0 σ') (k : Go p l e R s m args below meth c Q D A adK b Ls xs x.2.2.1 x.2.2.2.2.2.2 c0 s0 ads0 σ') : Go p l e R s m args below meth c Q D A adK b Ls xs x.2.2.1 x.2.2.2.2.2.2 c0 s0 ads0 σ := by
  simp only [c_if_eq, Bool.and_eq_true, decide_eq_true_eq] at hc
  exact g_if_eq C.1.1 C.1.2.1 hc.2 hc.1 hs k

theorem k_icmp_eq (C : CX p l R s m args meth c A adK adV b Ls xs x) (hc : c_icmp_eq x σ.1 q = true) (hs : s_icmp_eq q σ = some (Sum.inl σ')) (hrb : RB R c0 s0 σ') (k : Go p l e R s m args below meth c Q D A adK b Ls xs x.2.2.1 x.2.2.2.2.2.2 c0 s0 ads0 σ') : Go p l e R s m args below meth c Q D A adK b Ls xs x.2.2.1 x.2.2.2.2.2.2 c0 s0 ads0 σ := by
  simp only [c_icmp_eq, Bool.and_eq_true, decide_eq_true_eq] at hc
  exact g_icmp_eq C.1.1 C.1.2.1 hc.2 hc.1 hs k

theorem k_if_ne (C : CX p l R s m args meth c A adK adV b Ls xs x) (hc : c_if_ne x σ.1 q = true) (hs : s_if_ne q σ = some (Sum.inl σ')) (hrb : RB R c0 s0 σ') (k : Go p l e R s m args below meth c Q D A adK b Ls xs x.2.2.1 x.2.2.2.2.2.2 c0 s0 ads0 σ') : Go p l e R s m args below meth c Q D A adK b Ls xs x.2.2.1 x.2.2.2.2.2.2 c0 s0 ads0 σ := by
  simp only [c_if_ne, Bool.and_eq_true, decide_eq_true_eq] at hc
  exact g_if_ne C.1.1 C.1.2.1 hc.2 hc.1 hs k

theorem k_icmp_ne (C : CX p l R s m args meth c A adK adV b Ls xs x) (hc : c_icmp_ne x σ.1 q = true) (hs : s_icmp_ne q σ = some (Sum.inl σ')) (hrb : RB R c0 s0 σ') (k : Go p l e R s m args below meth c Q D A adK b Ls xs x.2.2.1 x.2.2.2.2.2.2 c0 s0 ads0 σ') : Go p l e R s m args below meth c Q D A adK b Ls xs x.2.2.1 x.2.2.2.2.2.2 c0 s0 ads0 σ := by
  simp only [c_icmp_ne, Bool.and_eq_true, decide_eq_true_eq] at hc
  exact g_icmp_ne C.1.1 C.1.2.1 hc.2 hc.1 hs k

theorem k_if_lt (C : CX p l R s m args meth c A adK adV b Ls xs x) (hc : c_if_lt x σ.1 q = true) (hs : s_if_lt q σ = some (Sum.inl σ')) (hrb : RB R c0 s0 σ') (k : Go p l e R s m args below meth c Q D A adK b Ls xs x.2.2.1 x.2.2.2.2.2.2 c0 s0 ads0 σ') : Go p l e R s m args below meth c Q D A adK b Ls xs x.2.2.1 x.2.2.2.2.2.2 c0 s0 ads0 σ := by
  simp only [c_if_lt, Bool.and_eq_true, decide_eq_true_eq] at hc
  exact g_if_lt C.1.1 C.1.2.1 hc.2 hc.1 hs k

theorem k_icmp_lt (C : CX p l R s m args meth c A adK adV b Ls xs x) (hc : c_icmp_lt x σ.1 q = true) (hs : s_icmp_lt q σ = some (Sum.inl σ')) (hrb : RB R c0 s0 σ') (k : Go p l e R s m args below meth c Q D A adK b Ls xs x.2.2.1 x.2.2.2.2.2.2 c0 s0 ads0 σ') : Go p l e R s m args below meth c Q D A adK b Ls xs x.2.2.1 x.2.2.2.2.2.2 c0 s0 ads0 σ := by
  simp only [c_icmp_lt, Bool.and_eq_true, decide_eq_true_eq] at hc
  exact g_icmp_lt C.1.1 C.1.2.1 hc.2 hc.1 hs k

theorem k_if_ge (C : CX p l R s m args meth c A adK adV b Ls xs x) (hc : c_if_ge x σ.1 q = true) (hs : s_if_ge q σ = some (Sum.inl σ')) (hrb : RB R c0 s0 σ') (k : Go p l e R s m args below meth c Q D A adK b Ls xs x.2.2.1 x.2.2.2.2.2.2 c0 s0 ads0 σ') : Go p l e R s m args below meth c Q D A adK b Ls xs x.2.2.1 x.2.2.2.2.2.2 c0 s0 ads0 σ := by
  simp only [c_if_ge, Bool.and_eq_true, decide_eq_true_eq] at hc
  exact g_if_ge C.1.1 C.1.2.1 hc.2 hc.1 hs k

theorem k_icmp_ge (C : CX p l R s m args meth c A adK adV b Ls xs x) (hc : c_icmp_ge x σ.1 q = true) (hs : s_icmp_ge q σ = some (Sum.inl σ')) (hrb : RB R c0 s0 σ') (k : Go p l e R s m args below meth c Q D A adK b Ls xs x.2.2.1 x.2.2.2.2.2.2 c0 s0 ads0 σ') : Go p l e R s m args below meth c Q D A adK b Ls xs x.2.2.1 x.2.2.2.2.2.2 c0 s0 ads0 σ := by
  simp only [c_icmp_ge, Bool.and_eq_true, decide_eq_true_eq] at hc
  exact g_icmp_ge C.1.1 C.1.2.1 hc.2 hc.1 hs k

theorem k_if_gt (C : CX p l R s m args meth c A adK adV b Ls xs x) (hc : c_if_gt x σ.1 q = true) (hs : s_if_gt q σ = some (Sum.inl σ')) (hrb : RB R c0 s0 σ') (k : Go p l e R s m args below meth c Q D A adK b Ls xs x.2.2.1 x.2.2.2.2.2.2 c0 s0 ads0 σ') : Go p l e R s m args below meth c Q D A adK b Ls xs x.2.2.1 x.2.2.2.2.2.2 c0 s0 ads0 σ := by
  simp only [c_if_gt, Bool.and_eq_true, decide_eq_true_eq] at hc
  exact g_if_gt C.1.1 C.1.2.1 hc.2 hc.1 hs k

theorem k_icmp_gt (C : CX p l R s m args meth c A adK adV b Ls xs x) (hc : c_icmp_gt x σ.1 q = true) (hs : s_icmp_gt q σ = some (Sum.inl σ')) (hrb : RB R c0 s0 σ') (k : Go p l e R s m args below meth c Q D A adK b Ls xs x.2.2.1 x.2.2.2.2.2.2 c0 s0 ads0 σ') : Go p l e R s m args below meth c Q D A adK b Ls xs x.2.2.1 x.2.2.2.2.2.2 c0 s0 ads0 σ := by
  simp only [c_icmp_gt, Bool.and_eq_true, decide_eq_true_eq] at hc
  exact g_icmp_gt C.1.1 C.1.2.1 hc.2 hc.1 hs k

theorem k_if_le (C : CX p l R s m args meth c A adK adV b Ls xs x) (hc : c_if_le x σ.1 q = true) (hs : s_if_le q σ = some (Sum.inl σ')) (hrb : RB R c0 s0 σ') (k : Go p l e R s m args below meth c Q D A adK b Ls xs x.2.2.1 x.2.2.2.2.2.2 c0 s0 ads0 σ') : Go p l e R s m args below meth c Q D A adK b Ls xs x.2.2.1 x.2.2.2.2.2.2 c0 s0 ads0 σ := by
  simp only [c_if_le, Bool.and_eq_true, decide_eq_true_eq] at hc
  exact g_if_le C.1.1 C.1.2.1 hc.2 hc.1 hs k

theorem k_icmp_le (C : CX p l R s m args meth c A adK adV b Ls xs x) (hc : c_icmp_le x σ.1 q = true) (hs : s_icmp_le q σ = some (Sum.inl σ')) (hrb : RB R c0 s0 σ') (k : Go p l e R s m args below meth c Q D A adK b Ls xs x.2.2.1 x.2.2.2.2.2.2 c0 s0 ads0 σ') : Go p l e R s m args below meth c Q D A adK b Ls xs x.2.2.1 x.2.2.2.2.2.2 c0 s0 ads0 σ := by
  simp only [c_icmp_le, Bool.and_eq_true, decide_eq_true_eq] at hc
  exact g_icmp_le C.1.1 C.1.2.1 hc.2 hc.1 hs k

theorem k_goto (C : CX p l R s m args meth c A adK adV b Ls xs x) (hc : c_goto x σ.1 q = true) (hs : s_goto q σ = some (Sum.inl σ')) (hrb : RB R c0 s0 σ') (k : Go p l e R s m args below meth c Q D A adK b Ls xs x.2.2.1 x.2.2.2.2.2.2 c0 s0 ads0 σ') : Go p l e R s m args below meth c Q D A adK b Ls xs x.2.2.1 x.2.2.2.2.2.2 c0 s0 ads0 σ := by
  simp only [c_goto, Bool.and_eq_true, decide_eq_true_eq] at hc
  exact g_goto C.1.1 C.1.2.1 hc.2 hc.1 hs k

theorem k_tswitch (C : CX p l R s m args meth c A adK adV b Ls xs x) (hc : c_tswitch x σ.1 q = true) (hs : s_tswitch q σ = some (Sum.inl σ')) (hrb : RB R c0 s0 σ') (k : Go p l e R s m args below meth c Q D A adK b Ls xs x.2.2.1 x.2.2.2.2.2.2 c0 s0 ads0 σ') : Go p l e R s m args below meth c Q D A adK b Ls xs x.2.2.1 x.2.2.2.2.2.2 c0 s0 ads0 σ := by
  unfold c_tswitch at hc
  split at hc
  · rename_i dflt lo hi offs ln lo2 hi2 d ts heq hsw
    simp only [Bool.and_eq_true, decide_eq_true_eq] at hc
    obtain ⟨rfl, rfl, h3, h4⟩ := hc
    refine g_tswitch C.1.1 C.1.2.1 hsw heq h3 (fun i t ht => ?_) hs k
    refine ⟨(t : Int) - (σ.1 : Int), ?_, by omega⟩
    rw [← Array.getElem?_toList, h4, List.getElem?_map, ht]
    rfl
  · cases hc

theorem k_getI (C : CX p l R s m args meth c A adK adV b Ls xs x) (hc : c_getI x σ.1 q = true) (hs : s_getI q σ = some (Sum.inl σ')) (hrb : RB R c0 s0 σ') (k : Go p l e R s m args below meth c Q D A adK b Ls xs x.2.2.1 x.2.2.2.2.2.2 c0 s0 ads0 σ') : Go p l e R s m args below meth c Q D A adK b Ls xs x.2.2.1 x.2.2.2.2.2.2 c0 s0 ads0 σ := by
  simp only [c_getI, Bool.and_eq_true, decide_eq_true_eq] at hc
  obtain ⟨h1, h2⟩ := hc
  split at h2
  · rename_i r hr
    simp only [Bool.and_eq_true, decide_eq_true_eq, Bool.not_eq_true'] at h2
    have hU : ∀ w ∈ u_ws r.1 r.2.1 r.2.2, w.before args s = true := fun w hw => C.wd (uGT _ (pN_of _ _ hr).2.1 r hr w hw)
    exact g_getI C.1.1 C.1.2.1 C.1.2.2.2.2 hr hU h2.1 (C.gw h2.2.1) h2.2.2 h1 hs k
  · cases h2

theorem k_getJ (C : CX p l R s m args meth c A adK adV b Ls xs x) (hc : c_getJ x σ.1 q = true) (hs : s_getJ q σ = some (Sum.inl σ')) (hrb : RB R c0 s0 σ') (k : Go p l e R s m args below meth c Q D A adK b Ls xs x.2.2.1 x.2.2.2.2.2.2 c0 s0 ads0 σ') : Go p l e R s m args below meth c Q D A adK b Ls xs x.2.2.1 x.2.2.2.2.2.2 c0 s0 ads0 σ := by
  simp only [c_getJ, Bool.and_eq_true, decide_eq_true_eq] at hc
  obtain ⟨h1, h2⟩ := hc
  split at h2
  · rename_i r hr
    simp only [Bool.and_eq_true, decide_eq_true_eq, Bool.not_eq_true'] at h2
    have hU : ∀ w ∈ u_ws r.1 r.2.1 r.2.2, w.before args s = true := fun w hw => C.wd (uGT _ (pN_of _ _ hr).2.1 r hr w hw)
    exact g_getJ C.1.1 C.1.2.1 C.1.2.2.2.2 hr hU h2.1 (C.gw h2.2.1) h2.2.2 h1 hs k
  · cases h2

theorem k_getR (C : CX p l R s m args meth c A adK adV b Ls xs x) (hc : c_getR x σ.1 q = true) (hs : s_getR q σ = some (Sum.inl σ')) (hrb : RB R c0 s0 σ') (k : Go p l e R s m args below meth c Q D A adK b Ls xs x.2.2.1 x.2.2.2.2.2.2 c0 s0 ads0 σ') : Go p l e R s m args below meth c Q D A adK b Ls xs x.2.2.1 x.2.2.2.2.2.2 c0 s0 ads0 σ := by
  simp only [c_getR, Bool.and_eq_true, decide_eq_true_eq] at hc
  obtain ⟨h1, h2⟩ := hc
  split at h2
  · rename_i r hr
    simp only [Bool.and_eq_true, decide_eq_true_eq, Bool.not_eq_true'] at h2
    have hU : ∀ w ∈ u_ws r.1 r.2.1 r.2.2, w.before args s = true := fun w hw => C.wd (uGT _ (pN_of _ _ hr).2.1 r hr w hw)
    exact g_getR C.1.1 C.1.2.1 C.1.2.2.2.2 hr hU h2.1 (C.gw h2.2.1) h2.2.2 h1 hs k
  · cases h2

theorem k_putI (C : CX p l R s m args meth c A adK adV b Ls xs x) (hc : c_putI x σ.1 q = true) (hs : s_putI q σ = some (Sum.inl σ')) (hrb : RB R c0 s0 σ') (k : Go p l e R s m args below meth c Q D A adK b Ls xs x.2.2.1 x.2.2.2.2.2.2 c0 s0 ads0 σ') : Go p l e R s m args below meth c Q D A adK b Ls xs x.2.2.1 x.2.2.2.2.2.2 c0 s0 ads0 σ := by
  simp only [c_putI, Bool.and_eq_true, decide_eq_true_eq] at hc
  obtain ⟨h1, h2⟩ := hc
  split at h2
  · rename_i r hr
    simp only [Bool.and_eq_true, decide_eq_true_eq, Bool.not_eq_true'] at h2
    have hU : ∀ w ∈ u_ws r.1 r.2.1 r.2.2, w.before args s = true := fun w hw => C.wd (uGT _ (pN_of _ _ hr).2.1 r hr w hw)
    exact g_putI C.1.1 C.1.2.1 C.1.2.2.2.2 hr hU h2.1 (C.gw h2.2.1) h2.2.2.1 h2.2.2.2 h1 hs k
  · cases h2

theorem k_putZ (C : CX p l R s m args meth c A adK adV b Ls xs x) (hc : c_putZ x σ.1 q = true) (hs : s_putZ q σ = some (Sum.inl σ')) (hrb : RB R c0 s0 σ') (k : Go p l e R s m args below meth c Q D A adK b Ls xs x.2.2.1 x.2.2.2.2.2.2 c0 s0 ads0 σ') : Go p l e R s m args below meth c Q D A adK b Ls xs x.2.2.1 x.2.2.2.2.2.2 c0 s0 ads0 σ := by
  simp only [c_putZ, Bool.and_eq_true, decide_eq_true_eq] at hc
  obtain ⟨h1, h2⟩ := hc
  split at h2
  · rename_i r hr
    simp only [Bool.and_eq_true, decide_eq_true_eq, Bool.not_eq_true'] at h2
    have hU : ∀ w ∈ u_ws r.1 r.2.1 r.2.2, w.before args s = true := fun w hw => C.wd (uGT _ (pN_of _ _ hr).2.1 r hr w hw)
    exact g_putZ C.1.1 C.1.2.1 C.1.2.2.2.2 hr hU h2.1 (C.gw h2.2.1) h2.2.2.1 h2.2.2.2 h1 hs k
  · cases h2

theorem k_putJ (C : CX p l R s m args meth c A adK adV b Ls xs x) (hc : c_putJ x σ.1 q = true) (hs : s_putJ q σ = some (Sum.inl σ')) (hrb : RB R c0 s0 σ') (k : Go p l e R s m args below meth c Q D A adK b Ls xs x.2.2.1 x.2.2.2.2.2.2 c0 s0 ads0 σ') : Go p l e R s m args below meth c Q D A adK b Ls xs x.2.2.1 x.2.2.2.2.2.2 c0 s0 ads0 σ := by
  simp only [c_putJ, Bool.and_eq_true, decide_eq_true_eq] at hc
  obtain ⟨h1, h2⟩ := hc
  split at h2
  · rename_i r hr
    simp only [Bool.and_eq_true, decide_eq_true_eq, Bool.not_eq_true'] at h2
    have hU : ∀ w ∈ u_ws r.1 r.2.1 r.2.2, w.before args s = true := fun w hw => C.wd (uGT _ (pN_of _ _ hr).2.1 r hr w hw)
    exact g_putJ C.1.1 C.1.2.1 C.1.2.2.2.2 hr hU h2.1 (C.gw h2.2.1) h2.2.2.1 h2.2.2.2 h1 hs k
  · cases h2

theorem k_putR (C : CX p l R s m args meth c A adK adV b Ls xs x) (hc : c_putR x σ.1 q = true) (hs : s_putR q σ = some (Sum.inl σ')) (hrb : RB R c0 s0 σ') (k : Go p l e R s m args below meth c Q D A adK b Ls xs x.2.2.1 x.2.2.2.2.2.2 c0 s0 ads0 σ') : Go p l e R s m args below meth c Q D A adK b Ls xs x.2.2.1 x.2.2.2.2.2.2 c0 s0 ads0 σ := by
  simp only [c_putR, Bool.and_eq_true, decide_eq_true_eq] at hc
  obtain ⟨h1, h2⟩ := hc
  split at h2
  · rename_i r hr
    simp only [Bool.and_eq_true, decide_eq_true_eq, Bool.not_eq_true'] at h2
    have hU : ∀ w ∈ u_ws r.1 r.2.1 r.2.2, w.before args s = true := fun w hw => C.wd (uGT _ (pN_of _ _ hr).2.1 r hr w hw)
    exact g_putR C.1.1 C.1.2.1 C.1.2.2.2.2 hr hU h2.1 (C.gw h2.2.1) h2.2.2.1 h2.2.2.2 h1 hs k
  · cases h2

theorem k_putF (C : CX p l R s m args meth c A adK adV b Ls xs x) (hc : c_putF x σ.1 q = true) (hs : s_putF q σ = some (Sum.inl σ')) (hrb : RB R c0 s0 σ') (k : Go p l e R s m args below meth c Q D A adK b Ls xs x.2.2.1 x.2.2.2.2.2.2 c0 s0 ads0 σ') : Go p l e R s m args below meth c Q D A adK b Ls xs x.2.2.1 x.2.2.2.2.2.2 c0 s0 ads0 σ := by
  simp only [c_putF, Bool.and_eq_true, decide_eq_true_eq] at hc
  obtain ⟨h1, h2⟩ := hc
  split at h2
  · rename_i r hr
    simp only [Bool.and_eq_true, decide_eq_true_eq, Bool.not_eq_true'] at h2
    have hU : ∀ w ∈ u_ws r.1 r.2.1 r.2.2, w.before args s = true := fun w hw => C.wd (uGT _ (pN_of _ _ hr).2.1 r hr w hw)
    exact g_putF C.1.1 C.1.2.1 C.1.2.2.2.2 hr hU h2.1 (C.gw h2.2.1) h2.2.2.1 h2.2.2.2.1 (C.2.1.2.2.2 h2.2.2.2.2.1) h2.2.2.2.2.2 h1 hs k
  · cases h2

theorem k_iald (C : CX p l R s m args meth c A adK adV b Ls xs x) (hc : c_iald x σ.1 q = true) (hs : s_iald q σ = some (Sum.inl σ')) (hrb : RB R c0 s0 σ') (k : Go p l e R s m args below meth c Q D A adK b Ls xs x.2.2.1 x.2.2.2.2.2.2 c0 s0 ads0 σ') : Go p l e R s m args below meth c Q D A adK b Ls xs x.2.2.1 x.2.2.2.2.2.2 c0 s0 ads0 σ := by
  exact g_iald C.1.1 C.1.2.1 (of_decide_eq_true hc) hs k

theorem k_iast (C : CX p l R s m args meth c A adK adV b Ls xs x) (hc : c_iast x σ.1 q = true) (hs : s_iast q σ = some (Sum.inl σ')) (hrb : RB R c0 s0 σ') (k : Go p l e R s m args below meth c Q D A adK b Ls xs x.2.2.1 x.2.2.2.2.2.2 c0 s0 ads0 σ') : Go p l e R s m args below meth c Q D A adK b Ls xs x.2.2.1 x.2.2.2.2.2.2 c0 s0 ads0 σ := by
  exact g_iast C.1.1 C.1.2.1 (of_decide_eq_true hc) hs k

theorem k_lald (C : CX p l R s m args meth c A adK adV b Ls xs x) (hc : c_lald x σ.1 q = true) (hs : s_lald q σ = some (Sum.inl σ')) (hrb : RB R c0 s0 σ') (k : Go p l e R s m args below meth c Q D A adK b Ls xs x.2.2.1 x.2.2.2.2.2.2 c0 s0 ads0 σ') : Go p l e R s m args below meth c Q D A adK b Ls xs x.2.2.1 x.2.2.2.2.2.2 c0 s0 ads0 σ := by
  exact g_lald C.1.1 C.1.2.1 (of_decide_eq_true hc) hs k

theorem k_last (C : CX p l R s m args meth c A adK adV b Ls xs x) (hc : c_last x σ.1 q = true) (hs : s_last q σ = some (Sum.inl σ')) (hrb : RB R c0 s0 σ') (k : Go p l e R s m args below meth c Q D A adK b Ls xs x.2.2.1 x.2.2.2.2.2.2 c0 s0 ads0 σ') : Go p l e R s m args below meth c Q D A adK b Ls xs x.2.2.1 x.2.2.2.2.2.2 c0 s0 ads0 σ := by
  exact g_last C.1.1 C.1.2.1 (of_decide_eq_true hc) hs k

theorem k_bald (C : CX p l R s m args meth c A adK adV b Ls xs x) (hc : c_bald x σ.1 q = true) (hs : s_bald q σ = some (Sum.inl σ')) (hrb : RB R c0 s0 σ') (k : Go p l e R s m args below meth c Q D A adK b Ls xs x.2.2.1 x.2.2.2.2.2.2 c0 s0 ads0 σ') : Go p l e R s m args below meth c Q D A adK b Ls xs x.2.2.1 x.2.2.2.2.2.2 c0 s0 ads0 σ := by
  exact g_bald C.1.1 C.1.2.1 (of_decide_eq_true hc) hs k

theorem k_bast (C : CX p l R s m args meth c A adK adV b Ls xs x) (hc : c_bast x σ.1 q = true) (hs : s_bast q σ = some (Sum.inl σ')) (hrb : RB R c0 s0 σ') (k : Go p l e R s m args below meth c Q D A adK b Ls xs x.2.2.1 x.2.2.2.2.2.2 c0 s0 ads0 σ') : Go p l e R s m args below meth c Q D A adK b Ls xs x.2.2.1 x.2.2.2.2.2.2 c0 s0 ads0 σ := by
  exact g_bast C.1.1 C.1.2.1 (of_decide_eq_true hc) hs k

theorem k_zald (C : CX p l R s m args meth c A adK adV b Ls xs x) (hc : c_zald x σ.1 q = true) (hs : s_zald q σ = some (Sum.inl σ')) (hrb : RB R c0 s0 σ') (k : Go p l e R s m args below meth c Q D A adK b Ls xs x.2.2.1 x.2.2.2.2.2.2 c0 s0 ads0 σ') : Go p l e R s m args below meth c Q D A adK b Ls xs x.2.2.1 x.2.2.2.2.2.2 c0 s0 ads0 σ := by
  exact g_zald C.1.1 C.1.2.1 (of_decide_eq_true hc) hs k

theorem k_zast (C : CX p l R s m args meth c A adK adV b Ls xs x) (hc : c_zast x σ.1 q = true) (hs : s_zast q σ = some (Sum.inl σ')) (hrb : RB R c0 s0 σ') (k : Go p l e R s m args below meth c Q D A adK b Ls xs x.2.2.1 x.2.2.2.2.2.2 c0 s0 ads0 σ') : Go p l e R s m args below meth c Q D A adK b Ls xs x.2.2.1 x.2.2.2.2.2.2 c0 s0 ads0 σ := by
  exact g_zast C.1.1 C.1.2.1 (of_decide_eq_true hc) hs k

theorem k_aald (C : CX p l R s m args meth c A adK adV b Ls xs x) (hc : c_aald x σ.1 q = true) (hs : s_aald q σ = some (Sum.inl σ')) (hrb : RB R c0 s0 σ') (k : Go p l e R s m args below meth c Q D A adK b Ls xs x.2.2.1 x.2.2.2.2.2.2 c0 s0 ads0 σ') : Go p l e R s m args below meth c Q D A adK b Ls xs x.2.2.1 x.2.2.2.2.2.2 c0 s0 ads0 σ := by
  exact g_aald C.1.1 C.1.2.1 (of_decide_eq_true hc) hs k

theorem k_aast (C : CX p l R s m args meth c A adK adV b Ls xs x) (hc : c_aast x σ.1 q = true) (hs : s_aast q σ = some (Sum.inl σ')) (hrb : RB R c0 s0 σ') (k : Go p l e R s m args below meth c Q D A adK b Ls xs x.2.2.1 x.2.2.2.2.2.2 c0 s0 ads0 σ') : Go p l e R s m args below meth c Q D A adK b Ls xs x.2.2.1 x.2.2.2.2.2.2 c0 s0 ads0 σ := by
  exact g_aast C.1.1 C.1.2.1 (of_decide_eq_true hc) hs k

theorem k_alen (C : CX p l R s m args meth c A adK adV b Ls xs x) (hc : c_alen x σ.1 q = true) (hs : s_alen q σ = some (Sum.inl σ')) (hrb : RB R c0 s0 σ') (k : Go p l e R s m args below meth c Q D A adK b Ls xs x.2.2.1 x.2.2.2.2.2.2 c0 s0 ads0 σ') : Go p l e R s m args below meth c Q D A adK b Ls xs x.2.2.1 x.2.2.2.2.2.2 c0 s0 ads0 σ := by
  exact g_alen C.1.1 C.1.2.1 (of_decide_eq_true hc) hs k

theorem k_newa (C : CX p l R s m args meth c A adK adV b Ls xs x) (hc : c_newa x σ.1 q = true) (hs : s_newa q σ = some (Sum.inl σ')) (hrb : RB R c0 s0 σ') (k : Go p l e R s m args below meth c Q D A adK b Ls xs x.2.2.1 x.2.2.2.2.2.2 c0 s0 ads0 σ') : Go p l e R s m args below meth c Q D A adK b Ls xs x.2.2.1 x.2.2.2.2.2.2 c0 s0 ads0 σ := by
  unfold c_newa at hc
  split at hc
  · rename_i at9 heq
    have hat := of_decide_eq_true hc
    have harr : (Jvm.Cond.arrayClass (newarray.typeOf at9)).before args s = true := by
      have hcd : q.2.1 = 1 ∨ q.2.1 = 2 ∨ q.2.1 = 3 ∨ q.2.1 = 4 := by
        unfold s_newa pnext at hs
        split at hs
        · split at hs
          · rename_i hcond; exact hcond.2.2
          · cases hs
        · cases hs
      obtain ⟨w1, w2, w3, w4⟩ := miscGT.2.2
      cases at9 <;> simp only [atk] at hat
      all_goals first | (exfalso; omega) | exact C.wd w1 | exact C.wd w2 | exact C.wd w3 | exact C.wd w4
    exact g_newa C.1.1 C.1.2.1 hat harr C.2.2.2.2.1 hrb heq hs k
  · cases hc

theorem k_newq (C : CX p l R s m args meth c A adK adV b Ls xs x) (hc : c_newq x σ.1 q = true) (hs : s_newq q σ = some (Sum.inl σ')) (hrb : RB R c0 s0 σ') (k : Go p l e R s m args below meth c Q D A adK b Ls xs x.2.2.1 x.2.2.2.2.2.2 c0 s0 ads0 σ') : Go p l e R s m args below meth c Q D A adK b Ls xs x.2.2.1 x.2.2.2.2.2.2 c0 s0 ads0 σ := by
  simp only [c_newq, Bool.and_eq_true, decide_eq_true_eq] at hc
  exact g_newq C.1.1 C.1.2.1 C.1.2.2.2.2 (C.gw hc.2) C.2.2.2.2.2.1.2.2.2.2.2 C.2.2.2.2.1 hrb hc.1 hs k

theorem k_new (C : CX p l R s m args meth c A adK adV b Ls xs x) (hc : c_new x σ.1 q = true) (hs : s_new q σ = some (Sum.inl σ')) (hrb : RB R c0 s0 σ') (k : Go p l e R s m args below meth c Q D A adK b Ls xs x.2.2.1 x.2.2.2.2.2.2 c0 s0 ads0 σ') : Go p l e R s m args below meth c Q D A adK b Ls xs x.2.2.1 x.2.2.2.2.2.2 c0 s0 ads0 σ := by
  simp only [c_new, Bool.and_eq_true, decide_eq_true_eq] at hc
  obtain ⟨h1, h2⟩ := hc
  split at h2
  · rename_i r hr
    have hci := (pN_of _ _ hr).2.1
    have hpn := (pN_of _ _ hr).1
    obtain ⟨w1, w2⟩ := newGT _ hci r hr
    have hU : ∀ w ∈ u_ws r.1 r.2.1 r.2.2, w.before args s = true := fun w hw => C.wd (uGT _ hci r hr w hw)
    exact g_new C.1.1 C.1.2.1 C.1.2.2.2.2 hr hU (C.gw h2) (C.wd w1) (C.wd w2) C.2.2.2.2.1 (fun k9 hk9 _ => hdef_of (hdef_all _ hci _ (by rw [← hpn]; exact hk9))) hrb h1 hs k
  · cases h2

theorem k_oinit (C : CX p l R s m args meth c A adK adV b Ls xs x) (hc : c_oinit x σ.1 q = true) (hs : s_oinit q σ = some (Sum.inl σ')) (hdep : 1 ≤ x.2.2.2.2.2.1) (hrb : RB R c0 s0 σ') (k : Go p l e R s m args below meth c Q D A adK b Ls xs x.2.2.1 x.2.2.2.2.2.2 c0 s0 ads0 σ') : Go p l e R s m args below meth c Q D A adK b Ls xs x.2.2.1 x.2.2.2.2.2.2 c0 s0 ads0 σ := by
  simp only [c_oinit, Bool.and_eq_true, decide_eq_true_eq] at hc
  have hd1 : 1 ≤ x.2.2.2.2.2.1 := hdep
  exact g_oinit C.1.1 C.1.2.1 C.1.2.2.2.2 C.1.2.2.2.1 (C.gw hc.2) (C.wd miscGT.1.1) (C.wd miscGT.1.2) (by have := C.2.2.1; omega) (by have := C.2.2.2.1; omega) hc.1 hs k

theorem k_acopy (C : CX p l R s m args meth c A adK adV b Ls xs x) (hc : c_acopy x σ.1 q = true) (hs : s_acopy q σ = some (Sum.inl σ')) (hrb : RB R c0 s0 σ') (k : Go p l e R s m args below meth c Q D A adK b Ls xs x.2.2.1 x.2.2.2.2.2.2 c0 s0 ads0 σ') : Go p l e R s m args below meth c Q D A adK b Ls xs x.2.2.1 x.2.2.2.2.2.2 c0 s0 ads0 σ := by
  simp only [c_acopy, Bool.and_eq_true, decide_eq_true_eq] at hc
  exact g_acopy C.1.1 C.1.2.1 C.1.2.2.2.2 C.1.2.2.2.1 (C.gw hc.2.1) (C.wd miscGT.2.1.1) (C.wd miscGT.2.1.2.1) (C.wd miscGT.2.1.2.2) (by have := C.2.2.1; have := hc.2.2; omega) (by have := C.2.2.2.1; have := hc.2.2; omega) hc.1 hs k

theorem k_ldcs (C : CX p l R s m args meth c A adK adV b Ls xs x) (hc : c_ldcs x σ.1 q = true) (hs : s_ldcs q σ = some (Sum.inl σ')) (hrb : RB R c0 s0 σ') (k : Go p l e R s m args below meth c Q D A adK b Ls xs x.2.2.1 x.2.2.2.2.2.2 c0 s0 ads0 σ') : Go p l e R s m args below meth c Q D A adK b Ls xs x.2.2.1 x.2.2.2.2.2.2 c0 s0 ads0 σ := by
  simp only [c_ldcs, Bool.and_eq_true, decide_eq_true_eq] at hc
  obtain ⟨h1, h2⟩ := hc
  obtain ⟨r, hr, h3⟩ := List.any_eq_true.mp h2
  simp only [Bool.and_eq_true, decide_eq_true_eq] at h3
  have hZ := C.2.2.2.2.2.1.2.1 r hr
  rw [h3.1, h3.2.1, h3.2.2.1] at hZ
  exact g_ldcs C.1.1 C.1.2.1 C.1.2.2.2.2 hZ h3.2.2.2 h1 hs k

theorem k_sld (C : CX p l R s m args meth c A adK adV b Ls xs x) (hc : c_sld x σ.1 q = true) (hs : s_sld q σ = some (Sum.inl σ')) (hrb : RB R c0 s0 σ') (k : Go p l e R s m args below meth c Q D A adK b Ls xs x.2.2.1 x.2.2.2.2.2.2 c0 s0 ads0 σ') : Go p l e R s m args below meth c Q D A adK b Ls xs x.2.2.1 x.2.2.2.2.2.2 c0 s0 ads0 σ := by
  exact g_sld C.1.1 C.1.2.1 C.2.2.2.2.2.1.2.2.1.1 C.2.2.2.2.2.1.2.2.1.2.1 C.2.2.2.2.2.1.2.2.1.2.2.1 C.2.2.2.2.2.1.2.2.1.2.2.2 (of_decide_eq_true hc) hs k

theorem k_slen (C : CX p l R s m args meth c A adK adV b Ls xs x) (hc : c_slen x σ.1 q = true) (hs : s_slen q σ = some (Sum.inl σ')) (hrb : RB R c0 s0 σ') (k : Go p l e R s m args below meth c Q D A adK b Ls xs x.2.2.1 x.2.2.2.2.2.2 c0 s0 ads0 σ') : Go p l e R s m args below meth c Q D A adK b Ls xs x.2.2.1 x.2.2.2.2.2.2 c0 s0 ads0 σ := by
  exact g_slen C.1.1 C.1.2.1 C.2.2.2.2.2.1.2.2.1.1 C.2.2.2.2.2.1.2.2.1.2.1 C.2.2.2.2.2.1.2.2.1.2.2.1 C.2.2.2.2.2.1.2.2.1.2.2.2 (of_decide_eq_true hc) hs k

end K1
