/-- the count of cells and of slots never falls -/
def mC (σ : PS) : Nat := σ.2.2.2.1.length + σ.2.2.2.2.1
def mS (σ : PS) : Nat := szs σ.2.2.2.1 + 6 * σ.2.2.2.2.1
theorem szs_le (lay : PY) (q : Nat × Nat) : szs lay ≤ szs (lay ++ [q]) := by simp [szs]
theorem mono_same {σ : PS} {pc : Nat} {L : PL} {st : List PV} {h : PC} : mC σ ≤ mC (pc, L, st, σ.2.2.2.1, σ.2.2.2.2.1, h) ∧ mS σ ≤ mS (pc, L, st, σ.2.2.2.1, σ.2.2.2.2.1, h) := ⟨Nat.le_refl _, Nat.le_refl _⟩
theorem mono_app {σ : PS} {pc : Nat} {L : PL} {st : List PV} {h : PC} {q : Nat × Nat} : mC σ ≤ mC (pc, L, st, σ.2.2.2.1 ++ [q], σ.2.2.2.2.1, h) ∧ mS σ ≤ mS (pc, L, st, σ.2.2.2.1 ++ [q], σ.2.2.2.2.1, h) := ⟨by simp [mC], by have := szs_le σ.2.2.2.1 q; simp only [mS]; omega⟩

theorem mono_iconst {q : PI} {σ σ' : PS} (hs : s_iconst q σ = some (Sum.inl σ')) : mC σ ≤ mC σ' ∧ mS σ ≤ mS σ' := by
  unfold s_iconst pnext at hs
  (repeat' split at hs) <;> first | (cases hs; done) | (cases hs; exact mono_same) | (cases hs; exact mono_app)

theorem mono_bipush {q : PI} {σ σ' : PS} (hs : s_bipush q σ = some (Sum.inl σ')) : mC σ ≤ mC σ' ∧ mS σ ≤ mS σ' := by
  unfold s_bipush pnext at hs
  (repeat' split at hs) <;> first | (cases hs; done) | (cases hs; exact mono_same) | (cases hs; exact mono_app)

theorem mono_sipush {q : PI} {σ σ' : PS} (hs : s_sipush q σ = some (Sum.inl σ')) : mC σ ≤ mC σ' ∧ mS σ ≤ mS σ' := by
  unfold s_sipush pnext at hs
  (repeat' split at hs) <;> first | (cases hs; done) | (cases hs; exact mono_same) | (cases hs; exact mono_app)

theorem mono_lconst {q : PI} {σ σ' : PS} (hs : s_lconst q σ = some (Sum.inl σ')) : mC σ ≤ mC σ' ∧ mS σ ≤ mS σ' := by
  unfold s_lconst pnext at hs
  (repeat' split at hs) <;> first | (cases hs; done) | (cases hs; exact mono_same) | (cases hs; exact mono_app)

theorem mono_ldci {q : PI} {σ σ' : PS} (hs : s_ldci q σ = some (Sum.inl σ')) : mC σ ≤ mC σ' ∧ mS σ ≤ mS σ' := by
  unfold s_ldci pnext at hs
  (repeat' split at hs) <;> first | (cases hs; done) | (cases hs; exact mono_same) | (cases hs; exact mono_app)

theorem mono_iload_n {q : PI} {σ σ' : PS} (hs : s_iload_n q σ = some (Sum.inl σ')) : mC σ ≤ mC σ' ∧ mS σ ≤ mS σ' := by
  unfold s_iload_n pnext at hs
  (repeat' split at hs) <;> first | (cases hs; done) | (cases hs; exact mono_same) | (cases hs; exact mono_app)

theorem mono_iload {q : PI} {σ σ' : PS} (hs : s_iload q σ = some (Sum.inl σ')) : mC σ ≤ mC σ' ∧ mS σ ≤ mS σ' := by
  unfold s_iload pnext at hs
  (repeat' split at hs) <;> first | (cases hs; done) | (cases hs; exact mono_same) | (cases hs; exact mono_app)

theorem mono_lload_n {q : PI} {σ σ' : PS} (hs : s_lload_n q σ = some (Sum.inl σ')) : mC σ ≤ mC σ' ∧ mS σ ≤ mS σ' := by
  unfold s_lload_n pnext at hs
  (repeat' split at hs) <;> first | (cases hs; done) | (cases hs; exact mono_same) | (cases hs; exact mono_app)

theorem mono_lload {q : PI} {σ σ' : PS} (hs : s_lload q σ = some (Sum.inl σ')) : mC σ ≤ mC σ' ∧ mS σ ≤ mS σ' := by
  unfold s_lload pnext at hs
  (repeat' split at hs) <;> first | (cases hs; done) | (cases hs; exact mono_same) | (cases hs; exact mono_app)

theorem mono_aload_n {q : PI} {σ σ' : PS} (hs : s_aload_n q σ = some (Sum.inl σ')) : mC σ ≤ mC σ' ∧ mS σ ≤ mS σ' := by
  unfold s_aload_n pnext at hs
  (repeat' split at hs) <;> first | (cases hs; done) | (cases hs; exact mono_same) | (cases hs; exact mono_app)

theorem mono_aload {q : PI} {σ σ' : PS} (hs : s_aload q σ = some (Sum.inl σ')) : mC σ ≤ mC σ' ∧ mS σ ≤ mS σ' := by
  unfold s_aload pnext at hs
  (repeat' split at hs) <;> first | (cases hs; done) | (cases hs; exact mono_same) | (cases hs; exact mono_app)

theorem mono_istore_n {q : PI} {σ σ' : PS} (hs : s_istore_n q σ = some (Sum.inl σ')) : mC σ ≤ mC σ' ∧ mS σ ≤ mS σ' := by
  unfold s_istore_n pnext at hs
  (repeat' split at hs) <;> first | (cases hs; done) | (cases hs; exact mono_same) | (cases hs; exact mono_app)

theorem mono_istore {q : PI} {σ σ' : PS} (hs : s_istore q σ = some (Sum.inl σ')) : mC σ ≤ mC σ' ∧ mS σ ≤ mS σ' := by
  unfold s_istore pnext at hs
  (repeat' split at hs) <;> first | (cases hs; done) | (cases hs; exact mono_same) | (cases hs; exact mono_app)

theorem mono_lstore_n {q : PI} {σ σ' : PS} (hs : s_lstore_n q σ = some (Sum.inl σ')) : mC σ ≤ mC σ' ∧ mS σ ≤ mS σ' := by
  unfold s_lstore_n pnext at hs
  (repeat' split at hs) <;> first | (cases hs; done) | (cases hs; exact mono_same) | (cases hs; exact mono_app)

theorem mono_lstore {q : PI} {σ σ' : PS} (hs : s_lstore q σ = some (Sum.inl σ')) : mC σ ≤ mC σ' ∧ mS σ ≤ mS σ' := by
  unfold s_lstore pnext at hs
  (repeat' split at hs) <;> first | (cases hs; done) | (cases hs; exact mono_same) | (cases hs; exact mono_app)

theorem mono_astore_n {q : PI} {σ σ' : PS} (hs : s_astore_n q σ = some (Sum.inl σ')) : mC σ ≤ mC σ' ∧ mS σ ≤ mS σ' := by
  unfold s_astore_n pnext at hs
  (repeat' split at hs) <;> first | (cases hs; done) | (cases hs; exact mono_same) | (cases hs; exact mono_app)

theorem mono_astore {q : PI} {σ σ' : PS} (hs : s_astore q σ = some (Sum.inl σ')) : mC σ ≤ mC σ' ∧ mS σ ≤ mS σ' := by
  unfold s_astore pnext at hs
  (repeat' split at hs) <;> first | (cases hs; done) | (cases hs; exact mono_same) | (cases hs; exact mono_app)

theorem mono_iinc {q : PI} {σ σ' : PS} (hs : s_iinc q σ = some (Sum.inl σ')) : mC σ ≤ mC σ' ∧ mS σ ≤ mS σ' := by
  unfold s_iinc pnext at hs
  (repeat' split at hs) <;> first | (cases hs; done) | (cases hs; exact mono_same) | (cases hs; exact mono_app)

theorem mono_iadd {q : PI} {σ σ' : PS} (hs : s_iadd q σ = some (Sum.inl σ')) : mC σ ≤ mC σ' ∧ mS σ ≤ mS σ' := by
  unfold s_iadd pnext at hs
  (repeat' split at hs) <;> first | (cases hs; done) | (cases hs; exact mono_same) | (cases hs; exact mono_app)

theorem mono_isub {q : PI} {σ σ' : PS} (hs : s_isub q σ = some (Sum.inl σ')) : mC σ ≤ mC σ' ∧ mS σ ≤ mS σ' := by
  unfold s_isub pnext at hs
  (repeat' split at hs) <;> first | (cases hs; done) | (cases hs; exact mono_same) | (cases hs; exact mono_app)

theorem mono_imul {q : PI} {σ σ' : PS} (hs : s_imul q σ = some (Sum.inl σ')) : mC σ ≤ mC σ' ∧ mS σ ≤ mS σ' := by
  unfold s_imul pnext at hs
  (repeat' split at hs) <;> first | (cases hs; done) | (cases hs; exact mono_same) | (cases hs; exact mono_app)

theorem mono_iand {q : PI} {σ σ' : PS} (hs : s_iand q σ = some (Sum.inl σ')) : mC σ ≤ mC σ' ∧ mS σ ≤ mS σ' := by
  unfold s_iand pnext at hs
  (repeat' split at hs) <;> first | (cases hs; done) | (cases hs; exact mono_same) | (cases hs; exact mono_app)

theorem mono_ior {q : PI} {σ σ' : PS} (hs : s_ior q σ = some (Sum.inl σ')) : mC σ ≤ mC σ' ∧ mS σ ≤ mS σ' := by
  unfold s_ior pnext at hs
  (repeat' split at hs) <;> first | (cases hs; done) | (cases hs; exact mono_same) | (cases hs; exact mono_app)

theorem mono_idiv {q : PI} {σ σ' : PS} (hs : s_idiv q σ = some (Sum.inl σ')) : mC σ ≤ mC σ' ∧ mS σ ≤ mS σ' := by
  unfold s_idiv pnext at hs
  (repeat' split at hs) <;> first | (cases hs; done) | (cases hs; exact mono_same) | (cases hs; exact mono_app)

theorem mono_irem {q : PI} {σ σ' : PS} (hs : s_irem q σ = some (Sum.inl σ')) : mC σ ≤ mC σ' ∧ mS σ ≤ mS σ' := by
  unfold s_irem pnext at hs
  (repeat' split at hs) <;> first | (cases hs; done) | (cases hs; exact mono_same) | (cases hs; exact mono_app)

theorem mono_ishl {q : PI} {σ σ' : PS} (hs : s_ishl q σ = some (Sum.inl σ')) : mC σ ≤ mC σ' ∧ mS σ ≤ mS σ' := by
  unfold s_ishl pnext at hs
  (repeat' split at hs) <;> first | (cases hs; done) | (cases hs; exact mono_same) | (cases hs; exact mono_app)

theorem mono_ishr {q : PI} {σ σ' : PS} (hs : s_ishr q σ = some (Sum.inl σ')) : mC σ ≤ mC σ' ∧ mS σ ≤ mS σ' := by
  unfold s_ishr pnext at hs
  (repeat' split at hs) <;> first | (cases hs; done) | (cases hs; exact mono_same) | (cases hs; exact mono_app)

theorem mono_iushr {q : PI} {σ σ' : PS} (hs : s_iushr q σ = some (Sum.inl σ')) : mC σ ≤ mC σ' ∧ mS σ ≤ mS σ' := by
  unfold s_iushr pnext at hs
  (repeat' split at hs) <;> first | (cases hs; done) | (cases hs; exact mono_same) | (cases hs; exact mono_app)

theorem mono_ladd {q : PI} {σ σ' : PS} (hs : s_ladd q σ = some (Sum.inl σ')) : mC σ ≤ mC σ' ∧ mS σ ≤ mS σ' := by
  unfold s_ladd pnext at hs
  (repeat' split at hs) <;> first | (cases hs; done) | (cases hs; exact mono_same) | (cases hs; exact mono_app)

theorem mono_lsub {q : PI} {σ σ' : PS} (hs : s_lsub q σ = some (Sum.inl σ')) : mC σ ≤ mC σ' ∧ mS σ ≤ mS σ' := by
  unfold s_lsub pnext at hs
  (repeat' split at hs) <;> first | (cases hs; done) | (cases hs; exact mono_same) | (cases hs; exact mono_app)

theorem mono_lmul {q : PI} {σ σ' : PS} (hs : s_lmul q σ = some (Sum.inl σ')) : mC σ ≤ mC σ' ∧ mS σ ≤ mS σ' := by
  unfold s_lmul pnext at hs
  (repeat' split at hs) <;> first | (cases hs; done) | (cases hs; exact mono_same) | (cases hs; exact mono_app)

theorem mono_lor {q : PI} {σ σ' : PS} (hs : s_lor q σ = some (Sum.inl σ')) : mC σ ≤ mC σ' ∧ mS σ ≤ mS σ' := by
  unfold s_lor pnext at hs
  (repeat' split at hs) <;> first | (cases hs; done) | (cases hs; exact mono_same) | (cases hs; exact mono_app)

theorem mono_lshl {q : PI} {σ σ' : PS} (hs : s_lshl q σ = some (Sum.inl σ')) : mC σ ≤ mC σ' ∧ mS σ ≤ mS σ' := by
  unfold s_lshl pnext at hs
  (repeat' split at hs) <;> first | (cases hs; done) | (cases hs; exact mono_same) | (cases hs; exact mono_app)

theorem mono_lcmp {q : PI} {σ σ' : PS} (hs : s_lcmp q σ = some (Sum.inl σ')) : mC σ ≤ mC σ' ∧ mS σ ≤ mS σ' := by
  unfold s_lcmp pnext at hs
  (repeat' split at hs) <;> first | (cases hs; done) | (cases hs; exact mono_same) | (cases hs; exact mono_app)

theorem mono_i2l {q : PI} {σ σ' : PS} (hs : s_i2l q σ = some (Sum.inl σ')) : mC σ ≤ mC σ' ∧ mS σ ≤ mS σ' := by
  unfold s_i2l pnext at hs
  (repeat' split at hs) <;> first | (cases hs; done) | (cases hs; exact mono_same) | (cases hs; exact mono_app)

theorem mono_l2i {q : PI} {σ σ' : PS} (hs : s_l2i q σ = some (Sum.inl σ')) : mC σ ≤ mC σ' ∧ mS σ ≤ mS σ' := by
  unfold s_l2i pnext at hs
  (repeat' split at hs) <;> first | (cases hs; done) | (cases hs; exact mono_same) | (cases hs; exact mono_app)

theorem mono_i2b {q : PI} {σ σ' : PS} (hs : s_i2b q σ = some (Sum.inl σ')) : mC σ ≤ mC σ' ∧ mS σ ≤ mS σ' := by
  unfold s_i2b pnext at hs
  (repeat' split at hs) <;> first | (cases hs; done) | (cases hs; exact mono_same) | (cases hs; exact mono_app)

theorem mono_dup {q : PI} {σ σ' : PS} (hs : s_dup q σ = some (Sum.inl σ')) : mC σ ≤ mC σ' ∧ mS σ ≤ mS σ' := by
  unfold s_dup pnext at hs
  (repeat' split at hs) <;> first | (cases hs; done) | (cases hs; exact mono_same) | (cases hs; exact mono_app)

theorem mono_dup2 {q : PI} {σ σ' : PS} (hs : s_dup2 q σ = some (Sum.inl σ')) : mC σ ≤ mC σ' ∧ mS σ ≤ mS σ' := by
  unfold s_dup2 pnext at hs
  (repeat' split at hs) <;> first | (cases hs; done) | (cases hs; exact mono_same) | (cases hs; exact mono_app)

theorem mono_pop {q : PI} {σ σ' : PS} (hs : s_pop q σ = some (Sum.inl σ')) : mC σ ≤ mC σ' ∧ mS σ ≤ mS σ' := by
  unfold s_pop pnext at hs
  (repeat' split at hs) <;> first | (cases hs; done) | (cases hs; exact mono_same) | (cases hs; exact mono_app)

theorem mono_if_eq {q : PI} {σ σ' : PS} (hs : s_if_eq q σ = some (Sum.inl σ')) : mC σ ≤ mC σ' ∧ mS σ ≤ mS σ' := by
  unfold s_if_eq pnext at hs
  (repeat' split at hs) <;> first | (cases hs; done) | (cases hs; exact mono_same) | (cases hs; exact mono_app)

theorem mono_if_ne {q : PI} {σ σ' : PS} (hs : s_if_ne q σ = some (Sum.inl σ')) : mC σ ≤ mC σ' ∧ mS σ ≤ mS σ' := by
  unfold s_if_ne pnext at hs
  (repeat' split at hs) <;> first | (cases hs; done) | (cases hs; exact mono_same) | (cases hs; exact mono_app)

theorem mono_if_lt {q : PI} {σ σ' : PS} (hs : s_if_lt q σ = some (Sum.inl σ')) : mC σ ≤ mC σ' ∧ mS σ ≤ mS σ' := by
  unfold s_if_lt pnext at hs
  (repeat' split at hs) <;> first | (cases hs; done) | (cases hs; exact mono_same) | (cases hs; exact mono_app)

theorem mono_if_ge {q : PI} {σ σ' : PS} (hs : s_if_ge q σ = some (Sum.inl σ')) : mC σ ≤ mC σ' ∧ mS σ ≤ mS σ' := by
  unfold s_if_ge pnext at hs
  (repeat' split at hs) <;> first | (cases hs; done) | (cases hs; exact mono_same) | (cases hs; exact mono_app)

theorem mono_if_gt {q : PI} {σ σ' : PS} (hs : s_if_gt q σ = some (Sum.inl σ')) : mC σ ≤ mC σ' ∧ mS σ ≤ mS σ' := by
  unfold s_if_gt pnext at hs
  (repeat' split at hs) <;> first | (cases hs; done) | (cases hs; exact mono_same) | (cases hs; exact mono_app)

theorem mono_if_le {q : PI} {σ σ' : PS} (hs : s_if_le q σ = some (Sum.inl σ')) : mC σ ≤ mC σ' ∧ mS σ ≤ mS σ' := by
  unfold s_if_le pnext at hs
  (repeat' split at hs) <;> first | (cases hs; done) | (cases hs; exact mono_same) | (cases hs; exact mono_app)

theorem mono_icmp_eq {q : PI} {σ σ' : PS} (hs : s_icmp_eq q σ = some (Sum.inl σ')) : mC σ ≤ mC σ' ∧ mS σ ≤ mS σ' := by
  unfold s_icmp_eq pnext at hs
  (repeat' split at hs) <;> first | (cases hs; done) | (cases hs; exact mono_same) | (cases hs; exact mono_app)

theorem mono_icmp_ne {q : PI} {σ σ' : PS} (hs : s_icmp_ne q σ = some (Sum.inl σ')) : mC σ ≤ mC σ' ∧ mS σ ≤ mS σ' := by
  unfold s_icmp_ne pnext at hs
  (repeat' split at hs) <;> first | (cases hs; done) | (cases hs; exact mono_same) | (cases hs; exact mono_app)

theorem mono_icmp_lt {q : PI} {σ σ' : PS} (hs : s_icmp_lt q σ = some (Sum.inl σ')) : mC σ ≤ mC σ' ∧ mS σ ≤ mS σ' := by
  unfold s_icmp_lt pnext at hs
  (repeat' split at hs) <;> first | (cases hs; done) | (cases hs; exact mono_same) | (cases hs; exact mono_app)

theorem mono_icmp_ge {q : PI} {σ σ' : PS} (hs : s_icmp_ge q σ = some (Sum.inl σ')) : mC σ ≤ mC σ' ∧ mS σ ≤ mS σ' := by
  unfold s_icmp_ge pnext at hs
  (repeat' split at hs) <;> first | (cases hs; done) | (cases hs; exact mono_same) | (cases hs; exact mono_app)

theorem mono_icmp_gt {q : PI} {σ σ' : PS} (hs : s_icmp_gt q σ = some (Sum.inl σ')) : mC σ ≤ mC σ' ∧ mS σ ≤ mS σ' := by
  unfold s_icmp_gt pnext at hs
  (repeat' split at hs) <;> first | (cases hs; done) | (cases hs; exact mono_same) | (cases hs; exact mono_app)

theorem mono_icmp_le {q : PI} {σ σ' : PS} (hs : s_icmp_le q σ = some (Sum.inl σ')) : mC σ ≤ mC σ' ∧ mS σ ≤ mS σ' := by
  unfold s_icmp_le pnext at hs
  (repeat' split at hs) <;> first | (cases hs; done) | (cases hs; exact mono_same) | (cases hs; exact mono_app)

theorem mono_goto {q : PI} {σ σ' : PS} (hs : s_goto q σ = some (Sum.inl σ')) : mC σ ≤ mC σ' ∧ mS σ ≤ mS σ' := by
  unfold s_goto pnext at hs
  (repeat' split at hs) <;> first | (cases hs; done) | (cases hs; exact mono_same) | (cases hs; exact mono_app)

theorem mono_tswitch {q : PI} {σ σ' : PS} (hs : s_tswitch q σ = some (Sum.inl σ')) : mC σ ≤ mC σ' ∧ mS σ ≤ mS σ' := by
  unfold s_tswitch pnext at hs
  (repeat' split at hs) <;> first | (cases hs; done) | (cases hs; exact mono_same) | (cases hs; exact mono_app)

theorem mono_getI {q : PI} {σ σ' : PS} (hs : s_getI q σ = some (Sum.inl σ')) : mC σ ≤ mC σ' ∧ mS σ ≤ mS σ' := by
  unfold s_getI pnext at hs
  (repeat' split at hs) <;> first | (cases hs; done) | (cases hs; exact mono_same) | (cases hs; exact mono_app)

theorem mono_getJ {q : PI} {σ σ' : PS} (hs : s_getJ q σ = some (Sum.inl σ')) : mC σ ≤ mC σ' ∧ mS σ ≤ mS σ' := by
  unfold s_getJ pnext at hs
  (repeat' split at hs) <;> first | (cases hs; done) | (cases hs; exact mono_same) | (cases hs; exact mono_app)

theorem mono_getR {q : PI} {σ σ' : PS} (hs : s_getR q σ = some (Sum.inl σ')) : mC σ ≤ mC σ' ∧ mS σ ≤ mS σ' := by
  unfold s_getR pnext at hs
  (repeat' split at hs) <;> first | (cases hs; done) | (cases hs; exact mono_same) | (cases hs; exact mono_app)

theorem mono_putI {q : PI} {σ σ' : PS} (hs : s_putI q σ = some (Sum.inl σ')) : mC σ ≤ mC σ' ∧ mS σ ≤ mS σ' := by
  unfold s_putI pnext at hs
  (repeat' split at hs) <;> first | (cases hs; done) | (cases hs; exact mono_same) | (cases hs; exact mono_app)

theorem mono_putZ {q : PI} {σ σ' : PS} (hs : s_putZ q σ = some (Sum.inl σ')) : mC σ ≤ mC σ' ∧ mS σ ≤ mS σ' := by
  unfold s_putZ pnext at hs
  (repeat' split at hs) <;> first | (cases hs; done) | (cases hs; exact mono_same) | (cases hs; exact mono_app)

theorem mono_putJ {q : PI} {σ σ' : PS} (hs : s_putJ q σ = some (Sum.inl σ')) : mC σ ≤ mC σ' ∧ mS σ ≤ mS σ' := by
  unfold s_putJ pnext at hs
  (repeat' split at hs) <;> first | (cases hs; done) | (cases hs; exact mono_same) | (cases hs; exact mono_app)

theorem mono_putR {q : PI} {σ σ' : PS} (hs : s_putR q σ = some (Sum.inl σ')) : mC σ ≤ mC σ' ∧ mS σ ≤ mS σ' := by
  unfold s_putR pnext at hs
  (repeat' split at hs) <;> first | (cases hs; done) | (cases hs; exact mono_same) | (cases hs; exact mono_app)

theorem mono_putF {q : PI} {σ σ' : PS} (hs : s_putF q σ = some (Sum.inl σ')) : mC σ ≤ mC σ' ∧ mS σ ≤ mS σ' := by
  unfold s_putF pnext at hs
  (repeat' split at hs) <;> first | (cases hs; done) | (cases hs; exact mono_same) | (cases hs; exact mono_app)

theorem mono_iald {q : PI} {σ σ' : PS} (hs : s_iald q σ = some (Sum.inl σ')) : mC σ ≤ mC σ' ∧ mS σ ≤ mS σ' := by
  unfold s_iald pnext at hs
  (repeat' split at hs) <;> first | (cases hs; done) | (cases hs; exact mono_same) | (cases hs; exact mono_app)

theorem mono_iast {q : PI} {σ σ' : PS} (hs : s_iast q σ = some (Sum.inl σ')) : mC σ ≤ mC σ' ∧ mS σ ≤ mS σ' := by
  unfold s_iast pnext at hs
  (repeat' split at hs) <;> first | (cases hs; done) | (cases hs; exact mono_same) | (cases hs; exact mono_app)

theorem mono_lald {q : PI} {σ σ' : PS} (hs : s_lald q σ = some (Sum.inl σ')) : mC σ ≤ mC σ' ∧ mS σ ≤ mS σ' := by
  unfold s_lald pnext at hs
  (repeat' split at hs) <;> first | (cases hs; done) | (cases hs; exact mono_same) | (cases hs; exact mono_app)

theorem mono_last {q : PI} {σ σ' : PS} (hs : s_last q σ = some (Sum.inl σ')) : mC σ ≤ mC σ' ∧ mS σ ≤ mS σ' := by
  unfold s_last pnext at hs
  (repeat' split at hs) <;> first | (cases hs; done) | (cases hs; exact mono_same) | (cases hs; exact mono_app)

theorem mono_bald {q : PI} {σ σ' : PS} (hs : s_bald q σ = some (Sum.inl σ')) : mC σ ≤ mC σ' ∧ mS σ ≤ mS σ' := by
  unfold s_bald pnext at hs
  (repeat' split at hs) <;> first | (cases hs; done) | (cases hs; exact mono_same) | (cases hs; exact mono_app)

theorem mono_bast {q : PI} {σ σ' : PS} (hs : s_bast q σ = some (Sum.inl σ')) : mC σ ≤ mC σ' ∧ mS σ ≤ mS σ' := by
  unfold s_bast pnext at hs
  (repeat' split at hs) <;> first | (cases hs; done) | (cases hs; exact mono_same) | (cases hs; exact mono_app)

theorem mono_zald {q : PI} {σ σ' : PS} (hs : s_zald q σ = some (Sum.inl σ')) : mC σ ≤ mC σ' ∧ mS σ ≤ mS σ' := by
  unfold s_zald pnext at hs
  (repeat' split at hs) <;> first | (cases hs; done) | (cases hs; exact mono_same) | (cases hs; exact mono_app)

theorem mono_zast {q : PI} {σ σ' : PS} (hs : s_zast q σ = some (Sum.inl σ')) : mC σ ≤ mC σ' ∧ mS σ ≤ mS σ' := by
  unfold s_zast pnext at hs
  (repeat' split at hs) <;> first | (cases hs; done) | (cases hs; exact mono_same) | (cases hs; exact mono_app)

theorem mono_aald {q : PI} {σ σ' : PS} (hs : s_aald q σ = some (Sum.inl σ')) : mC σ ≤ mC σ' ∧ mS σ ≤ mS σ' := by
  unfold s_aald pnext at hs
  (repeat' split at hs) <;> first | (cases hs; done) | (cases hs; exact mono_same) | (cases hs; exact mono_app)

theorem mono_aast {q : PI} {σ σ' : PS} (hs : s_aast q σ = some (Sum.inl σ')) : mC σ ≤ mC σ' ∧ mS σ ≤ mS σ' := by
  unfold s_aast pnext at hs
  (repeat' split at hs) <;> first | (cases hs; done) | (cases hs; exact mono_same) | (cases hs; exact mono_app)

theorem mono_alen {q : PI} {σ σ' : PS} (hs : s_alen q σ = some (Sum.inl σ')) : mC σ ≤ mC σ' ∧ mS σ ≤ mS σ' := by
  unfold s_alen pnext at hs
  (repeat' split at hs) <;> first | (cases hs; done) | (cases hs; exact mono_same) | (cases hs; exact mono_app)

theorem mono_newa {q : PI} {σ σ' : PS} (hs : s_newa q σ = some (Sum.inl σ')) : mC σ ≤ mC σ' ∧ mS σ ≤ mS σ' := by
  unfold s_newa pnext at hs
  (repeat' split at hs) <;> first | (cases hs; done) | (cases hs; exact mono_same) | (cases hs; exact mono_app)

theorem mono_newq {q : PI} {σ σ' : PS} (hs : s_newq q σ = some (Sum.inl σ')) : mC σ ≤ mC σ' ∧ mS σ ≤ mS σ' := by
  unfold s_newq pnext at hs
  (repeat' split at hs) <;> first | (cases hs; done) | (cases hs; exact mono_same) | (cases hs; exact mono_app)

theorem mono_new {q : PI} {σ σ' : PS} (hs : s_new q σ = some (Sum.inl σ')) : mC σ ≤ mC σ' ∧ mS σ ≤ mS σ' := by
  unfold s_new pnext at hs
  (repeat' split at hs) <;> first | (cases hs; done) | (cases hs; exact mono_same) | (cases hs; exact mono_app)

theorem mono_ivS {q : PI} {σ σ' : PS} (hs : s_ivS q σ = some (Sum.inl σ')) : mC σ ≤ mC σ' ∧ mS σ ≤ mS σ' := by
  unfold s_ivS at hs
  (repeat' split at hs) <;> first | (cases hs; done) | (cases hs; exact mono_same) | (cases hs; exact mono_app)

theorem mono_ivV {q : PI} {σ σ' : PS} (hs : s_ivV q σ = some (Sum.inl σ')) : mC σ ≤ mC σ' ∧ mS σ ≤ mS σ' := by
  unfold s_ivV at hs
  (repeat' split at hs) <;> first | (cases hs; done) | (cases hs; exact mono_same) | (cases hs; exact mono_app)

theorem mono_ivI {q : PI} {σ σ' : PS} (hs : s_ivI q σ = some (Sum.inl σ')) : mC σ ≤ mC σ' ∧ mS σ ≤ mS σ' := by
  unfold s_ivI at hs
  (repeat' split at hs) <;> first | (cases hs; done) | (cases hs; exact mono_same) | (cases hs; exact mono_app)

theorem mono_ivN {q : PI} {σ σ' : PS} (hs : s_ivN q σ = some (Sum.inl σ')) : mC σ ≤ mC σ' ∧ mS σ ≤ mS σ' := by
  unfold s_ivN at hs
  (repeat' split at hs) <;> first | (cases hs; done) | (cases hs; exact mono_same) | (cases hs; exact mono_app)

theorem mono_oinit {q : PI} {σ σ' : PS} (hs : s_oinit q σ = some (Sum.inl σ')) : mC σ ≤ mC σ' ∧ mS σ ≤ mS σ' := by
  unfold s_oinit pnext at hs
  (repeat' split at hs) <;> first | (cases hs; done) | (cases hs; exact mono_same) | (cases hs; exact mono_app)

theorem mono_acopy {q : PI} {σ σ' : PS} (hs : s_acopy q σ = some (Sum.inl σ')) : mC σ ≤ mC σ' ∧ mS σ ≤ mS σ' := by
  unfold s_acopy pnext at hs
  (repeat' split at hs) <;> first | (cases hs; done) | (cases hs; exact mono_same) | (cases hs; exact mono_app)

theorem mono_throw {q : PI} {σ σ' : PS} (hs : s_throw q σ = some (Sum.inl σ')) : mC σ ≤ mC σ' ∧ mS σ ≤ mS σ' := by
  unfold s_throw at hs
  (repeat' split at hs) <;> first | (cases hs; done) | (cases hs; exact mono_same) | (cases hs; exact mono_app)

theorem mono_ldcs {q : PI} {σ σ' : PS} (hs : s_ldcs q σ = some (Sum.inl σ')) : mC σ ≤ mC σ' ∧ mS σ ≤ mS σ' := by
  unfold s_ldcs pnext at hs
  (repeat' split at hs) <;> first | (cases hs; done) | (cases hs; exact mono_same) | (cases hs; exact mono_app)

theorem mono_sld {q : PI} {σ σ' : PS} (hs : s_sld q σ = some (Sum.inl σ')) : mC σ ≤ mC σ' ∧ mS σ ≤ mS σ' := by
  unfold s_sld pnext at hs
  (repeat' split at hs) <;> first | (cases hs; done) | (cases hs; exact mono_same) | (cases hs; exact mono_app)

theorem mono_slen {q : PI} {σ σ' : PS} (hs : s_slen q σ = some (Sum.inl σ')) : mC σ ≤ mC σ' ∧ mS σ ≤ mS σ' := by
  unfold s_slen pnext at hs
  (repeat' split at hs) <;> first | (cases hs; done) | (cases hs; exact mono_same) | (cases hs; exact mono_app)

theorem mono_iret {q : PI} {σ σ' : PS} (hs : s_iret q σ = some (Sum.inl σ')) : mC σ ≤ mC σ' ∧ mS σ ≤ mS σ' := by
  unfold s_iret at hs
  (repeat' split at hs) <;> first | (cases hs; done) | (cases hs; exact mono_same) | (cases hs; exact mono_app)

theorem mono_zret {q : PI} {σ σ' : PS} (hs : s_zret q σ = some (Sum.inl σ')) : mC σ ≤ mC σ' ∧ mS σ ≤ mS σ' := by
  unfold s_zret at hs
  (repeat' split at hs) <;> first | (cases hs; done) | (cases hs; exact mono_same) | (cases hs; exact mono_app)

theorem mono_lret {q : PI} {σ σ' : PS} (hs : s_lret q σ = some (Sum.inl σ')) : mC σ ≤ mC σ' ∧ mS σ ≤ mS σ' := by
  unfold s_lret at hs
  (repeat' split at hs) <;> first | (cases hs; done) | (cases hs; exact mono_same) | (cases hs; exact mono_app)

theorem mono_vret {q : PI} {σ σ' : PS} (hs : s_vret q σ = some (Sum.inl σ')) : mC σ ≤ mC σ' ∧ mS σ ≤ mS σ' := by
  unfold s_vret at hs
  (repeat' split at hs) <;> first | (cases hs; done) | (cases hs; exact mono_same) | (cases hs; exact mono_app)

theorem mono_slength {q : PI} {σ σ' : PS} (hs : s_slength q σ = some (Sum.inl σ')) : mC σ ≤ mC σ' ∧ mS σ ≤ mS σ' := by
  unfold s_slength pnext at hs
  (repeat' split at hs) <;> first | (cases hs; done) | (cases hs; exact mono_same) | (cases hs; exact mono_app)

theorem mono_scharAt {q : PI} {σ σ' : PS} (hs : s_scharAt q σ = some (Sum.inl σ')) : mC σ ≤ mC σ' ∧ mS σ ≤ mS σ' := by
  unfold s_scharAt pnext at hs
  (repeat' split at hs) <;> first | (cases hs; done) | (cases hs; exact mono_same) | (cases hs; exact mono_app)

theorem mono_mmin {q : PI} {σ σ' : PS} (hs : s_mmin q σ = some (Sum.inl σ')) : mC σ ≤ mC σ' ∧ mS σ ≤ mS σ' := by
  unfold s_mmin pnext at hs
  (repeat' split at hs) <;> first | (cases hs; done) | (cases hs; exact mono_same) | (cases hs; exact mono_app)

theorem mono_mmax {q : PI} {σ σ' : PS} (hs : s_mmax q σ = some (Sum.inl σ')) : mC σ ≤ mC σ' ∧ mS σ ≤ mS σ' := by
  unfold s_mmax pnext at hs
  (repeat' split at hs) <;> first | (cases hs; done) | (cases hs; exact mono_same) | (cases hs; exact mono_app)

theorem step_mono {q : PI} {σ σ' : PS} (hs : pstep q σ = some (Sum.inl σ')) : mC σ ≤ mC σ' ∧ mS σ ≤ mS σ' := by
  obtain ⟨op, q⟩ := q
  match op, hs with
  | 0, hs => cases hs
  | 1, hs => exact mono_iconst (q := (1, q)) hs
  | 2, hs => exact mono_bipush (q := (2, q)) hs
  | 3, hs => exact mono_sipush (q := (3, q)) hs
  | 4, hs => exact mono_lconst (q := (4, q)) hs
  | 5, hs => exact mono_ldci (q := (5, q)) hs
  | 6, hs => exact mono_iload_n (q := (6, q)) hs
  | 7, hs => exact mono_iload (q := (7, q)) hs
  | 8, hs => exact mono_lload_n (q := (8, q)) hs
  | 9, hs => exact mono_lload (q := (9, q)) hs
  | 10, hs => exact mono_aload_n (q := (10, q)) hs
  | 11, hs => exact mono_aload (q := (11, q)) hs
  | 12, hs => exact mono_istore_n (q := (12, q)) hs
  | 13, hs => exact mono_istore (q := (13, q)) hs
  | 14, hs => exact mono_lstore_n (q := (14, q)) hs
  | 15, hs => exact mono_lstore (q := (15, q)) hs
  | 16, hs => exact mono_astore_n (q := (16, q)) hs
  | 17, hs => exact mono_astore (q := (17, q)) hs
  | 18, hs => exact mono_iinc (q := (18, q)) hs
  | 19, hs => exact mono_iadd (q := (19, q)) hs
  | 20, hs => exact mono_isub (q := (20, q)) hs
  | 21, hs => exact mono_imul (q := (21, q)) hs
  | 22, hs => exact mono_iand (q := (22, q)) hs
  | 23, hs => exact mono_ior (q := (23, q)) hs
  | 24, hs => exact mono_idiv (q := (24, q)) hs
  | 25, hs => exact mono_irem (q := (25, q)) hs
  | 26, hs => exact mono_ishl (q := (26, q)) hs
  | 27, hs => exact mono_ishr (q := (27, q)) hs
  | 28, hs => exact mono_iushr (q := (28, q)) hs
  | 29, hs => exact mono_ladd (q := (29, q)) hs
  | 30, hs => exact mono_lsub (q := (30, q)) hs
  | 31, hs => exact mono_lmul (q := (31, q)) hs
  | 32, hs => exact mono_lor (q := (32, q)) hs
  | 33, hs => exact mono_lshl (q := (33, q)) hs
  | 34, hs => exact mono_lcmp (q := (34, q)) hs
  | 35, hs => exact mono_i2l (q := (35, q)) hs
  | 36, hs => exact mono_l2i (q := (36, q)) hs
  | 37, hs => exact mono_i2b (q := (37, q)) hs
  | 38, hs => exact mono_dup (q := (38, q)) hs
  | 39, hs => exact mono_dup2 (q := (39, q)) hs
  | 40, hs => exact mono_pop (q := (40, q)) hs
  | 41, hs => exact mono_if_eq (q := (41, q)) hs
  | 42, hs => exact mono_if_ne (q := (42, q)) hs
  | 43, hs => exact mono_if_lt (q := (43, q)) hs
  | 44, hs => exact mono_if_ge (q := (44, q)) hs
  | 45, hs => exact mono_if_gt (q := (45, q)) hs
  | 46, hs => exact mono_if_le (q := (46, q)) hs
  | 47, hs => exact mono_icmp_eq (q := (47, q)) hs
  | 48, hs => exact mono_icmp_ne (q := (48, q)) hs
  | 49, hs => exact mono_icmp_lt (q := (49, q)) hs
  | 50, hs => exact mono_icmp_ge (q := (50, q)) hs
  | 51, hs => exact mono_icmp_gt (q := (51, q)) hs
  | 52, hs => exact mono_icmp_le (q := (52, q)) hs
  | 53, hs => exact mono_goto (q := (53, q)) hs
  | 54, hs => exact mono_tswitch (q := (54, q)) hs
  | 55, hs => exact mono_getI (q := (55, q)) hs
  | 56, hs => exact mono_getJ (q := (56, q)) hs
  | 57, hs => exact mono_getR (q := (57, q)) hs
  | 58, hs => exact mono_putI (q := (58, q)) hs
  | 59, hs => exact mono_putZ (q := (59, q)) hs
  | 60, hs => exact mono_putJ (q := (60, q)) hs
  | 61, hs => exact mono_putR (q := (61, q)) hs
  | 62, hs => exact mono_putF (q := (62, q)) hs
  | 63, hs => exact mono_iald (q := (63, q)) hs
  | 64, hs => exact mono_iast (q := (64, q)) hs
  | 65, hs => exact mono_lald (q := (65, q)) hs
  | 66, hs => exact mono_last (q := (66, q)) hs
  | 67, hs => exact mono_bald (q := (67, q)) hs
  | 68, hs => exact mono_bast (q := (68, q)) hs
  | 69, hs => exact mono_zald (q := (69, q)) hs
  | 70, hs => exact mono_zast (q := (70, q)) hs
  | 71, hs => exact mono_aald (q := (71, q)) hs
  | 72, hs => exact mono_aast (q := (72, q)) hs
  | 73, hs => exact mono_alen (q := (73, q)) hs
  | 74, hs => exact mono_newa (q := (74, q)) hs
  | 75, hs => exact mono_newq (q := (75, q)) hs
  | 76, hs => exact mono_new (q := (76, q)) hs
  | 77, hs => exact mono_ivS (q := (77, q)) hs
  | 78, hs => exact mono_ivV (q := (78, q)) hs
  | 79, hs => exact mono_ivI (q := (79, q)) hs
  | 80, hs => exact mono_ivN (q := (80, q)) hs
  | 81, hs => exact mono_oinit (q := (81, q)) hs
  | 82, hs => exact mono_acopy (q := (82, q)) hs
  | 83, hs => exact mono_throw (q := (83, q)) hs
  | 84, hs => exact mono_ldcs (q := (84, q)) hs
  | 85, hs => exact mono_sld (q := (85, q)) hs
  | 86, hs => exact mono_slen (q := (86, q)) hs
  | 87, hs => exact mono_iret (q := (87, q)) hs
  | 88, hs => exact mono_zret (q := (88, q)) hs
  | 89, hs => exact mono_lret (q := (89, q)) hs
  | 90, hs => exact mono_vret (q := (90, q)) hs
  | 91, hs => exact mono_slength (q := (91, q)) hs
  | 92, hs => exact mono_scharAt (q := (92, q)) hs
  | 93, hs => exact mono_mmin (q := (93, q)) hs
  | 94, hs => exact mono_mmax (q := (94, q)) hs
  | n + 95, hs => cases hs
theorem run_mono : ∀ (f mi : Nat) (σ : PS) (o : PO) (lay' : PY) (nx' : Nat) (h' : PC), prun f mi σ = some (o, lay', nx', h') → mC σ ≤ lay'.length + nx' ∧ mS σ ≤ szs lay' + 6 * nx' := by
  intro f
  induction f with
  | zero => intro mi σ o lay' nx' h' h; cases h
  | succ f ih =>
    intro mi σ o lay' nx' h' h
    unfold prun at h
    split at h
    · cases h
    · rename_i q hq
      split at h
      · cases h
      · rename_i σ' hs
        have h1 := step_mono hs
        have h2 := ih _ _ _ _ _ _ h
        exact ⟨Nat.le_trans h1.1 h2.1, Nat.le_trans h1.2 h2.2⟩
      · rename_i mj args pc' st' hs
        split at h
        · cases h
        split at h
        · cases h
        · rename_i v lay1 nx1 h1 hr
          have h1 := ih _ _ _ _ _ _ hr
          split at h
          · cases h
          · have h2 := ih _ _ _ _ _ _ h
            exact ⟨Nat.le_trans h1.1 h2.1, Nat.le_trans h1.2 h2.2⟩
        · rename_i e lay1 nx1 h1 hr
          have h1 := ih _ _ _ _ _ _ hr
          split at h
          · cases h
          · split at h
            · cases h; exact h1
            · split at h
              · cases h
              · have h2 := ih _ _ _ _ _ _ h
                exact ⟨Nat.le_trans h1.1 h2.1, Nat.le_trans h1.2 h2.2⟩
      · cases h; exact ⟨Nat.le_refl _, Nat.le_refl _⟩
      · cases h; exact ⟨by simp only [mC]; omega, by simp only [mS]; omega⟩

