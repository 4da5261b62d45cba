section D1
variable {p : Program} {l : Launch} {e : Env} {R : Room} {s : State} {m : MethodId} {args : Array Value} {below : List Frame} {meth : Method} {c : Code} {Q : State → Prop} {D : va_G} {A : Nat → Prop} {adK adV : Nat → Nat} {b Ls : Nat} {xs : Nat → Int32} {c0 s0 : Nat} {ads0 : List Nat} {q : PI} {σ σ' : PS} {x : MI}

theorem nc_iconst {r : (Nat × List PV × Nat × List PV) ⊕ PO} (hs : s_iconst q σ = some (Sum.inr r)) : False := by
  unfold s_iconst pnext at hs
  (repeat' split at hs) <;> cases hs

theorem nc_bipush {r : (Nat × List PV × Nat × List PV) ⊕ PO} (hs : s_bipush q σ = some (Sum.inr r)) : False := by
  unfold s_bipush pnext at hs
  (repeat' split at hs) <;> cases hs

theorem nc_sipush {r : (Nat × List PV × Nat × List PV) ⊕ PO} (hs : s_sipush q σ = some (Sum.inr r)) : False := by
  unfold s_sipush pnext at hs
  (repeat' split at hs) <;> cases hs

theorem nc_lconst {r : (Nat × List PV × Nat × List PV) ⊕ PO} (hs : s_lconst q σ = some (Sum.inr r)) : False := by
  unfold s_lconst pnext at hs
  (repeat' split at hs) <;> cases hs

theorem nc_ldci {r : (Nat × List PV × Nat × List PV) ⊕ PO} (hs : s_ldci q σ = some (Sum.inr r)) : False := by
  unfold s_ldci pnext at hs
  (repeat' split at hs) <;> cases hs

theorem nc_iload_n {r : (Nat × List PV × Nat × List PV) ⊕ PO} (hs : s_iload_n q σ = some (Sum.inr r)) : False := by
  unfold s_iload_n pnext at hs
  (repeat' split at hs) <;> cases hs

theorem nc_iload {r : (Nat × List PV × Nat × List PV) ⊕ PO} (hs : s_iload q σ = some (Sum.inr r)) : False := by
  unfold s_iload pnext at hs
  (repeat' split at hs) <;> cases hs

theorem nc_lload_n {r : (Nat × List PV × Nat × List PV) ⊕ PO} (hs : s_lload_n q σ = some (Sum.inr r)) : False := by
  unfold s_lload_n pnext at hs
  (repeat' split at hs) <;> cases hs

theorem nc_lload {r : (Nat × List PV × Nat × List PV) ⊕ PO} (hs : s_lload q σ = some (Sum.inr r)) : False := by
  unfold s_lload pnext at hs
  (repeat' split at hs) <;> cases hs

theorem nc_aload_n {r : (Nat × List PV × Nat × List PV) ⊕ PO} (hs : s_aload_n q σ = some (Sum.inr r)) : False := by
  unfold s_aload_n pnext at hs
  (repeat' split at hs) <;> cases hs

theorem nc_aload {r : (Nat × List PV × Nat × List PV) ⊕ PO} (hs : s_aload q σ = some (Sum.inr r)) : False := by
  unfold s_aload pnext at hs
  (repeat' split at hs) <;> cases hs

theorem nc_istore_n {r : (Nat × List PV × Nat × List PV) ⊕ PO} (hs : s_istore_n q σ = some (Sum.inr r)) : False := by
  unfold s_istore_n pnext at hs
  (repeat' split at hs) <;> cases hs

theorem nc_istore {r : (Nat × List PV × Nat × List PV) ⊕ PO} (hs : s_istore q σ = some (Sum.inr r)) : False := by
  unfold s_istore pnext at hs
  (repeat' split at hs) <;> cases hs

theorem nc_lstore_n {r : (Nat × List PV × Nat × List PV) ⊕ PO} (hs : s_lstore_n q σ = some (Sum.inr r)) : False := by
  unfold s_lstore_n pnext at hs
  (repeat' split at hs) <;> cases hs

theorem nc_lstore {r : (Nat × List PV × Nat × List PV) ⊕ PO} (hs : s_lstore q σ = some (Sum.inr r)) : False := by
  unfold s_lstore pnext at hs
  (repeat' split at hs) <;> cases hs

theorem nc_astore_n {r : (Nat × List PV × Nat × List PV) ⊕ PO} (hs : s_astore_n q σ = some (Sum.inr r)) : False := by
  unfold s_astore_n pnext at hs
  (repeat' split at hs) <;> cases hs

theorem nc_astore {r : (Nat × List PV × Nat × List PV) ⊕ PO} (hs : s_astore q σ = some (Sum.inr r)) : False := by
  unfold s_astore pnext at hs
  (repeat' split at hs) <;> cases hs

theorem nc_iinc {r : (Nat × List PV × Nat × List PV) ⊕ PO} (hs : s_iinc q σ = some (Sum.inr r)) : False := by
  unfold s_iinc pnext at hs
  (repeat' split at hs) <;> cases hs

theorem nc_iadd {r : (Nat × List PV × Nat × List PV) ⊕ PO} (hs : s_iadd q σ = some (Sum.inr r)) : False := by
  unfold s_iadd pnext at hs
  (repeat' split at hs) <;> cases hs

theorem nc_isub {r : (Nat × List PV × Nat × List PV) ⊕ PO} (hs : s_isub q σ = some (Sum.inr r)) : False := by
  unfold s_isub pnext at hs
  (repeat' split at hs) <;> cases hs

theorem nc_imul {r : (Nat × List PV × Nat × List PV) ⊕ PO} (hs : s_imul q σ = some (Sum.inr r)) : False := by
  unfold s_imul pnext at hs
  (repeat' split at hs) <;> cases hs

theorem nc_iand {r : (Nat × List PV × Nat × List PV) ⊕ PO} (hs : s_iand q σ = some (Sum.inr r)) : False := by
  unfold s_iand pnext at hs
  (repeat' split at hs) <;> cases hs

theorem nc_ior {r : (Nat × List PV × Nat × List PV) ⊕ PO} (hs : s_ior q σ = some (Sum.inr r)) : False := by
  unfold s_ior pnext at hs
  (repeat' split at hs) <;> cases hs

theorem nc_idiv {r : (Nat × List PV × Nat × List PV) ⊕ PO} (hs : s_idiv q σ = some (Sum.inr r)) : False := by
  unfold s_idiv pnext at hs
  (repeat' split at hs) <;> cases hs

theorem nc_irem {r : (Nat × List PV × Nat × List PV) ⊕ PO} (hs : s_irem q σ = some (Sum.inr r)) : False := by
  unfold s_irem pnext at hs
  (repeat' split at hs) <;> cases hs

theorem nc_ishl {r : (Nat × List PV × Nat × List PV) ⊕ PO} (hs : s_ishl q σ = some (Sum.inr r)) : False := by
  unfold s_ishl pnext at hs
  (repeat' split at hs) <;> cases hs

theorem nc_ishr {r : (Nat × List PV × Nat × List PV) ⊕ PO} (hs : s_ishr q σ = some (Sum.inr r)) : False := by
  unfold s_ishr pnext at hs
  (repeat' split at hs) <;> cases hs

theorem nc_iushr {r : (Nat × List PV × Nat × List PV) ⊕ PO} (hs : s_iushr q σ = some (Sum.inr r)) : False := by
  unfold s_iushr pnext at hs
  (repeat' split at hs) <;> cases hs

theorem nc_ladd {r : (Nat × List PV × Nat × List PV) ⊕ PO} (hs : s_ladd q σ = some (Sum.inr r)) : False := by
  unfold s_ladd pnext at hs
  (repeat' split at hs) <;> cases hs

theorem nc_lsub {r : (Nat × List PV × Nat × List PV) ⊕ PO} (hs : s_lsub q σ = some (Sum.inr r)) : False := by
  unfold s_lsub pnext at hs
  (repeat' split at hs) <;> cases hs

theorem nc_lmul {r : (Nat × List PV × Nat × List PV) ⊕ PO} (hs : s_lmul q σ = some (Sum.inr r)) : False := by
  unfold s_lmul pnext at hs
  (repeat' split at hs) <;> cases hs

theorem nc_lor {r : (Nat × List PV × Nat × List PV) ⊕ PO} (hs : s_lor q σ = some (Sum.inr r)) : False := by
  unfold s_lor pnext at hs
  (repeat' split at hs) <;> cases hs

theorem nc_lshl {r : (Nat × List PV × Nat × List PV) ⊕ PO} (hs : s_lshl q σ = some (Sum.inr r)) : False := by
  unfold s_lshl pnext at hs
  (repeat' split at hs) <;> cases hs

theorem nc_lcmp {r : (Nat × List PV × Nat × List PV) ⊕ PO} (hs : s_lcmp q σ = some (Sum.inr r)) : False := by
  unfold s_lcmp pnext at hs
  (repeat' split at hs) <;> cases hs

theorem nc_i2l {r : (Nat × List PV × Nat × List PV) ⊕ PO} (hs : s_i2l q σ = some (Sum.inr r)) : False := by
  unfold s_i2l pnext at hs
  (repeat' split at hs) <;> cases hs

theorem nc_l2i {r : (Nat × List PV × Nat × List PV) ⊕ PO} (hs : s_l2i q σ = some (Sum.inr r)) : False := by
  unfold s_l2i pnext at hs
  (repeat' split at hs) <;> cases hs

theorem nc_i2b {r : (Nat × List PV × Nat × List PV) ⊕ PO} (hs : s_i2b q σ = some (Sum.inr r)) : False := by
  unfold s_i2b pnext at hs
  (repeat' split at hs) <;> cases hs

theorem nc_dup {r : (Nat × List PV × Nat × List PV) ⊕ PO} (hs : s_dup q σ = some (Sum.inr r)) : False := by
  unfold s_dup pnext at hs
  (repeat' split at hs) <;> cases hs

theorem nc_dup2 {r : (Nat × List PV × Nat × List PV) ⊕ PO} (hs : s_dup2 q σ = some (Sum.inr r)) : False := by
  unfold s_dup2 pnext at hs
  (repeat' split at hs) <;> cases hs

theorem nc_pop {r : (Nat × List PV × Nat × List PV) ⊕ PO} (hs : s_pop q σ = some (Sum.inr r)) : False := by
  unfold s_pop pnext at hs
  (repeat' split at hs) <;> cases hs

theorem nc_if_eq {r : (Nat × List PV × Nat × List PV) ⊕ PO} (hs : s_if_eq q σ = some (Sum.inr r)) : False := by
  unfold s_if_eq pnext at hs
  (repeat' split at hs) <;> cases hs

theorem nc_if_ne {r : (Nat × List PV × Nat × List PV) ⊕ PO} (hs : s_if_ne q σ = some (Sum.inr r)) : False := by
  unfold s_if_ne pnext at hs
  (repeat' split at hs) <;> cases hs

theorem nc_if_lt {r : (Nat × List PV × Nat × List PV) ⊕ PO} (hs : s_if_lt q σ = some (Sum.inr r)) : False := by
  unfold s_if_lt pnext at hs
  (repeat' split at hs) <;> cases hs

theorem nc_if_ge {r : (Nat × List PV × Nat × List PV) ⊕ PO} (hs : s_if_ge q σ = some (Sum.inr r)) : False := by
  unfold s_if_ge pnext at hs
  (repeat' split at hs) <;> cases hs

theorem nc_if_gt {r : (Nat × List PV × Nat × List PV) ⊕ PO} (hs : s_if_gt q σ = some (Sum.inr r)) : False := by
  unfold s_if_gt pnext at hs
  (repeat' split at hs) <;> cases hs

theorem nc_if_le {r : (Nat × List PV × Nat × List PV) ⊕ PO} (hs : s_if_le q σ = some (Sum.inr r)) : False := by
  unfold s_if_le pnext at hs
  (repeat' split at hs) <;> cases hs

theorem nc_icmp_eq {r : (Nat × List PV × Nat × List PV) ⊕ PO} (hs : s_icmp_eq q σ = some (Sum.inr r)) : False := by
  unfold s_icmp_eq pnext at hs
  (repeat' split at hs) <;> cases hs

theorem nc_icmp_ne {r : (Nat × List PV × Nat × List PV) ⊕ PO} (hs : s_icmp_ne q σ = some (Sum.inr r)) : False := by
  unfold s_icmp_ne pnext at hs
  (repeat' split at hs) <;> cases hs

theorem nc_icmp_lt {r : (Nat × List PV × Nat × List PV) ⊕ PO} (hs : s_icmp_lt q σ = some (Sum.inr r)) : False := by
  unfold s_icmp_lt pnext at hs
  (repeat' split at hs) <;> cases hs

theorem nc_icmp_ge {r : (Nat × List PV × Nat × List PV) ⊕ PO} (hs : s_icmp_ge q σ = some (Sum.inr r)) : False := by
  unfold s_icmp_ge pnext at hs
  (repeat' split at hs) <;> cases hs

theorem nc_icmp_gt {r : (Nat × List PV × Nat × List PV) ⊕ PO} (hs : s_icmp_gt q σ = some (Sum.inr r)) : False := by
  unfold s_icmp_gt pnext at hs
  (repeat' split at hs) <;> cases hs

theorem nc_icmp_le {r : (Nat × List PV × Nat × List PV) ⊕ PO} (hs : s_icmp_le q σ = some (Sum.inr r)) : False := by
  unfold s_icmp_le pnext at hs
  (repeat' split at hs) <;> cases hs

theorem nc_goto {r : (Nat × List PV × Nat × List PV) ⊕ PO} (hs : s_goto q σ = some (Sum.inr r)) : False := by
  unfold s_goto pnext at hs
  (repeat' split at hs) <;> cases hs

theorem nc_tswitch {r : (Nat × List PV × Nat × List PV) ⊕ PO} (hs : s_tswitch q σ = some (Sum.inr r)) : False := by
  unfold s_tswitch pnext at hs
  (repeat' split at hs) <;> cases hs

theorem nc_getI {r : (Nat × List PV × Nat × List PV) ⊕ PO} (hs : s_getI q σ = some (Sum.inr r)) : False := by
  unfold s_getI pnext at hs
  (repeat' split at hs) <;> cases hs

theorem nc_getJ {r : (Nat × List PV × Nat × List PV) ⊕ PO} (hs : s_getJ q σ = some (Sum.inr r)) : False := by
  unfold s_getJ pnext at hs
  (repeat' split at hs) <;> cases hs

theorem nc_getR {r : (Nat × List PV × Nat × List PV) ⊕ PO} (hs : s_getR q σ = some (Sum.inr r)) : False := by
  unfold s_getR pnext at hs
  (repeat' split at hs) <;> cases hs

theorem nc_putI {r : (Nat × List PV × Nat × List PV) ⊕ PO} (hs : s_putI q σ = some (Sum.inr r)) : False := by
  unfold s_putI pnext at hs
  (repeat' split at hs) <;> cases hs

theorem nc_putZ {r : (Nat × List PV × Nat × List PV) ⊕ PO} (hs : s_putZ q σ = some (Sum.inr r)) : False := by
  unfold s_putZ pnext at hs
  (repeat' split at hs) <;> cases hs

theorem nc_putJ {r : (Nat × List PV × Nat × List PV) ⊕ PO} (hs : s_putJ q σ = some (Sum.inr r)) : False := by
  unfold s_putJ pnext at hs
  (repeat' split at hs) <;> cases hs

theorem nc_putR {r : (Nat × List PV × Nat × List PV) ⊕ PO} (hs : s_putR q σ = some (Sum.inr r)) : False := by
  unfold s_putR pnext at hs
  (repeat' split at hs) <;> cases hs

theorem nc_putF {r : (Nat × List PV × Nat × List PV) ⊕ PO} (hs : s_putF q σ = some (Sum.inr r)) : False := by
  unfold s_putF pnext at hs
  (repeat' split at hs) <;> cases hs

theorem nc_iald {r : (Nat × List PV × Nat × List PV) ⊕ PO} (hs : s_iald q σ = some (Sum.inr r)) : False := by
  unfold s_iald pnext at hs
  (repeat' split at hs) <;> cases hs

theorem nc_iast {r : (Nat × List PV × Nat × List PV) ⊕ PO} (hs : s_iast q σ = some (Sum.inr r)) : False := by
  unfold s_iast pnext at hs
  (repeat' split at hs) <;> cases hs

theorem nc_lald {r : (Nat × List PV × Nat × List PV) ⊕ PO} (hs : s_lald q σ = some (Sum.inr r)) : False := by
  unfold s_lald pnext at hs
  (repeat' split at hs) <;> cases hs

theorem nc_last {r : (Nat × List PV × Nat × List PV) ⊕ PO} (hs : s_last q σ = some (Sum.inr r)) : False := by
  unfold s_last pnext at hs
  (repeat' split at hs) <;> cases hs

theorem nc_bald {r : (Nat × List PV × Nat × List PV) ⊕ PO} (hs : s_bald q σ = some (Sum.inr r)) : False := by
  unfold s_bald pnext at hs
  (repeat' split at hs) <;> cases hs

theorem nc_bast {r : (Nat × List PV × Nat × List PV) ⊕ PO} (hs : s_bast q σ = some (Sum.inr r)) : False := by
  unfold s_bast pnext at hs
  (repeat' split at hs) <;> cases hs

theorem nc_zald {r : (Nat × List PV × Nat × List PV) ⊕ PO} (hs : s_zald q σ = some (Sum.inr r)) : False := by
  unfold s_zald pnext at hs
  (repeat' split at hs) <;> cases hs

theorem nc_zast {r : (Nat × List PV × Nat × List PV) ⊕ PO} (hs : s_zast q σ = some (Sum.inr r)) : False := by
  unfold s_zast pnext at hs
  (repeat' split at hs) <;> cases hs

theorem nc_aald {r : (Nat × List PV × Nat × List PV) ⊕ PO} (hs : s_aald q σ = some (Sum.inr r)) : False := by
  unfold s_aald pnext at hs
  (repeat' split at hs) <;> cases hs

theorem nc_aast {r : (Nat × List PV × Nat × List PV) ⊕ PO} (hs : s_aast q σ = some (Sum.inr r)) : False := by
  unfold s_aast pnext at hs
  (repeat' split at hs) <;> cases hs

theorem nc_alen {r : (Nat × List PV × Nat × List PV) ⊕ PO} (hs : s_alen q σ = some (Sum.inr r)) : False := by
  unfold s_alen pnext at hs
  (repeat' split at hs) <;> cases hs

theorem nc_newa {r : (Nat × List PV × Nat × List PV) ⊕ PO} (hs : s_newa q σ = some (Sum.inr r)) : False := by
  unfold s_newa pnext at hs
  (repeat' split at hs) <;> cases hs

theorem nc_newq {r : (Nat × List PV × Nat × List PV) ⊕ PO} (hs : s_newq q σ = some (Sum.inr r)) : False := by
  unfold s_newq pnext at hs
  (repeat' split at hs) <;> cases hs

theorem nc_new {r : (Nat × List PV × Nat × List PV) ⊕ PO} (hs : s_new q σ = some (Sum.inr r)) : False := by
  unfold s_new pnext at hs
  (repeat' split at hs) <;> cases hs

theorem nc_oinit {r : (Nat × List PV × Nat × List PV) ⊕ PO} (hs : s_oinit q σ = some (Sum.inr r)) : False := by
  unfold s_oinit pnext at hs
  (repeat' split at hs) <;> cases hs

theorem nc_acopy {r : (Nat × List PV × Nat × List PV) ⊕ PO} (hs : s_acopy q σ = some (Sum.inr r)) : False := by
  unfold s_acopy pnext at hs
  (repeat' split at hs) <;> cases hs

theorem nc_ldcs {r : (Nat × List PV × Nat × List PV) ⊕ PO} (hs : s_ldcs q σ = some (Sum.inr r)) : False := by
  unfold s_ldcs pnext at hs
  (repeat' split at hs) <;> cases hs

theorem nc_sld {r : (Nat × List PV × Nat × List PV) ⊕ PO} (hs : s_sld q σ = some (Sum.inr r)) : False := by
  unfold s_sld pnext at hs
  (repeat' split at hs) <;> cases hs

theorem nc_slen {r : (Nat × List PV × Nat × List PV) ⊕ PO} (hs : s_slen q σ = some (Sum.inr r)) : False := by
  unfold s_slen pnext at hs
  (repeat' split at hs) <;> cases hs

theorem nc_slength {r : (Nat × List PV × Nat × List PV) ⊕ PO} (hs : s_slength q σ = some (Sum.inr r)) : False := by
  unfold s_slength pnext at hs
  (repeat' split at hs) <;> cases hs

theorem nc_scharAt {r : (Nat × List PV × Nat × List PV) ⊕ PO} (hs : s_scharAt q σ = some (Sum.inr r)) : False := by
  unfold s_scharAt pnext at hs
  (repeat' split at hs) <;> cases hs

theorem nc_mmin {r : (Nat × List PV × Nat × List PV) ⊕ PO} (hs : s_mmin q σ = some (Sum.inr r)) : False := by
  unfold s_mmin pnext at hs
  (repeat' split at hs) <;> cases hs

theorem nc_mmax {r : (Nat × List PV × Nat × List PV) ⊕ PO} (hs : s_mmax q σ = some (Sum.inr r)) : False := by
  unfold s_mmax pnext at hs
  (repeat' split at hs) <;> cases hs

theorem ne_ivS {o : PO} (hs : s_ivS q σ = some (Sum.inr (Sum.inr o))) : False := by
  unfold s_ivS at hs
  (repeat' split at hs) <;> cases hs

theorem nn_ivS (hs : s_ivS q σ = some (Sum.inl σ')) : False := by
  unfold s_ivS at hs
  (repeat' split at hs) <;> cases hs

theorem ne_ivV {o : PO} (hs : s_ivV q σ = some (Sum.inr (Sum.inr o))) : False := by
  unfold s_ivV at hs
  (repeat' split at hs) <;> cases hs

theorem nn_ivV (hs : s_ivV q σ = some (Sum.inl σ')) : False := by
  unfold s_ivV at hs
  (repeat' split at hs) <;> cases hs

theorem ne_ivI {o : PO} (hs : s_ivI q σ = some (Sum.inr (Sum.inr o))) : False := by
  unfold s_ivI at hs
  (repeat' split at hs) <;> cases hs

theorem nn_ivI (hs : s_ivI q σ = some (Sum.inl σ')) : False := by
  unfold s_ivI at hs
  (repeat' split at hs) <;> cases hs

theorem ne_ivN {o : PO} (hs : s_ivN q σ = some (Sum.inr (Sum.inr o))) : False := by
  unfold s_ivN at hs
  (repeat' split at hs) <;> cases hs

theorem nn_ivN (hs : s_ivN q σ = some (Sum.inl σ')) : False := by
  unfold s_ivN at hs
  (repeat' split at hs) <;> cases hs

theorem ni_throw {z : Nat × List PV × Nat × List PV} (hs : s_throw q σ = some (Sum.inr (Sum.inl z))) : False := by
  unfold s_throw at hs
  (repeat' split at hs) <;> cases hs

theorem nn_throw (hs : s_throw q σ = some (Sum.inl σ')) : False := by
  unfold s_throw at hs
  (repeat' split at hs) <;> cases hs

theorem ni_iret {z : Nat × List PV × Nat × List PV} (hs : s_iret q σ = some (Sum.inr (Sum.inl z))) : False := by
  unfold s_iret at hs
  (repeat' split at hs) <;> cases hs

theorem nn_iret (hs : s_iret q σ = some (Sum.inl σ')) : False := by
  unfold s_iret at hs
  (repeat' split at hs) <;> cases hs

theorem ni_zret {z : Nat × List PV × Nat × List PV} (hs : s_zret q σ = some (Sum.inr (Sum.inl z))) : False := by
  unfold s_zret at hs
  (repeat' split at hs) <;> cases hs

theorem nn_zret (hs : s_zret q σ = some (Sum.inl σ')) : False := by
  unfold s_zret at hs
  (repeat' split at hs) <;> cases hs

theorem ni_lret {z : Nat × List PV × Nat × List PV} (hs : s_lret q σ = some (Sum.inr (Sum.inl z))) : False := by
  unfold s_lret at hs
  (repeat' split at hs) <;> cases hs

theorem nn_lret (hs : s_lret q σ = some (Sum.inl σ')) : False := by
  unfold s_lret at hs
  (repeat' split at hs) <;> cases hs

theorem ni_vret {z : Nat × List PV × Nat × List PV} (hs : s_vret q σ = some (Sum.inr (Sum.inl z))) : False := by
  unfold s_vret at hs
  (repeat' split at hs) <;> cases hs

theorem nn_vret (hs : s_vret q σ = some (Sum.inl σ')) : False := by
  unfold s_vret at hs
  (repeat' split at hs) <;> cases hs

theorem href_ivI {mj pc' : Nat} {cargs st' : List PV} (hs : s_ivI q σ = some (Sum.inr (Sum.inl (mj, cargs, pc', st')))) : ∀ (ads : List Nat) (va : List Value), TRel ads adK b (σ.2.2.1.take q.2.2.1) va → ∀ (v0 : Value) (vs' : List Value), va.reverse = v0 :: vs' → ∃ a, v0 = .ref a := by
  obtain ⟨pc, L, st, lay, nx, h⟩ := σ
  simp only [s_ivI] at hs
  split at hs
  · rename_i a As hrev
    intro ads va hT v0 vs' hv
    have h2 := hT.rev
    rw [hrev, hv] at h2
    obtain ⟨v, vs2, hcons, h3, -⟩ := h2.cons
    obtain ⟨rfl, -⟩ := List.cons.inj hcons
    exact VR.ref h3
  · cases hs
theorem href_ivN {mj pc' : Nat} {cargs st' : List PV} (hs : s_ivN q σ = some (Sum.inr (Sum.inl (mj, cargs, pc', st')))) : ∀ (ads : List Nat) (va : List Value), TRel ads adK b (σ.2.2.1.take q.2.2.1) va → ∀ (v0 : Value) (vs' : List Value), va.reverse = v0 :: vs' → ∃ a, v0 = .ref a := by
  obtain ⟨pc, L, st, lay, nx, h⟩ := σ
  simp only [s_ivN] at hs
  split at hs
  · rename_i a As hrev
    intro ads va hT v0 vs' hv
    have h2 := hT.rev
    rw [hrev, hv] at h2
    obtain ⟨v, vs2, hcons, h3, -⟩ := h2.cons
    obtain ⟨rfl, -⟩ := List.cons.inj hcons
    exact VR.ref h3
  · cases hs
theorem d_next (C : CX p l R s m args meth c A adK adV b Ls xs x) (hdep : 1 ≤ x.2.2.2.2.2.1) (hc : ckq x σ.1 q = true) (hs : pstep q σ = some (Sum.inl σ')) (hrb : RB R c0 s0 σ') (k : Go p l e R s m args below meth c Q D A adK b Ls xs x.2.2.1 x.2.2.2.2.2.2 c0 s0 ads0 σ') : Go p l e R s m args below meth c Q D A adK b Ls xs x.2.2.1 x.2.2.2.2.2.2 c0 s0 ads0 σ := by
  obtain ⟨op, q⟩ := q
  match op, hc, hs with
  | 0, hc, hs => cases hs
  | 1, hc, hs => exact k_iconst (q := (1, q)) C hc hs hrb k
  | 2, hc, hs => exact k_bipush (q := (2, q)) C hc hs hrb k
  | 3, hc, hs => exact k_sipush (q := (3, q)) C hc hs hrb k
  | 4, hc, hs => exact k_lconst (q := (4, q)) C hc hs hrb k
  | 5, hc, hs => exact k_ldci (q := (5, q)) C hc hs hrb k
  | 6, hc, hs => exact k_iload_n (q := (6, q)) C hc hs hrb k
  | 7, hc, hs => exact k_iload (q := (7, q)) C hc hs hrb k
  | 8, hc, hs => exact k_lload_n (q := (8, q)) C hc hs hrb k
  | 9, hc, hs => exact k_lload (q := (9, q)) C hc hs hrb k
  | 10, hc, hs => exact k_aload_n (q := (10, q)) C hc hs hrb k
  | 11, hc, hs => exact k_aload (q := (11, q)) C hc hs hrb k
  | 12, hc, hs => exact k_istore_n (q := (12, q)) C hc hs hrb k
  | 13, hc, hs => exact k_istore (q := (13, q)) C hc hs hrb k
  | 14, hc, hs => exact k_lstore_n (q := (14, q)) C hc hs hrb k
  | 15, hc, hs => exact k_lstore (q := (15, q)) C hc hs hrb k
  | 16, hc, hs => exact k_astore_n (q := (16, q)) C hc hs hrb k
  | 17, hc, hs => exact k_astore (q := (17, q)) C hc hs hrb k
  | 18, hc, hs => exact k_iinc (q := (18, q)) C hc hs hrb k
  | 19, hc, hs => exact k_iadd (q := (19, q)) C hc hs hrb k
  | 20, hc, hs => exact k_isub (q := (20, q)) C hc hs hrb k
  | 21, hc, hs => exact k_imul (q := (21, q)) C hc hs hrb k
  | 22, hc, hs => exact k_iand (q := (22, q)) C hc hs hrb k
  | 23, hc, hs => exact k_ior (q := (23, q)) C hc hs hrb k
  | 24, hc, hs => exact k_idiv (q := (24, q)) C hc hs hrb k
  | 25, hc, hs => exact k_irem (q := (25, q)) C hc hs hrb k
  | 26, hc, hs => exact k_ishl (q := (26, q)) C hc hs hrb k
  | 27, hc, hs => exact k_ishr (q := (27, q)) C hc hs hrb k
  | 28, hc, hs => exact k_iushr (q := (28, q)) C hc hs hrb k
  | 29, hc, hs => exact k_ladd (q := (29, q)) C hc hs hrb k
  | 30, hc, hs => exact k_lsub (q := (30, q)) C hc hs hrb k
  | 31, hc, hs => exact k_lmul (q := (31, q)) C hc hs hrb k
  | 32, hc, hs => exact k_lor (q := (32, q)) C hc hs hrb k
  | 33, hc, hs => exact k_lshl (q := (33, q)) C hc hs hrb k
  | 34, hc, hs => exact k_lcmp (q := (34, q)) C hc hs hrb k
  | 35, hc, hs => exact k_i2l (q := (35, q)) C hc hs hrb k
  | 36, hc, hs => exact k_l2i (q := (36, q)) C hc hs hrb k
  | 37, hc, hs => exact k_i2b (q := (37, q)) C hc hs hrb k
  | 38, hc, hs => exact k_dup (q := (38, q)) C hc hs hrb k
  | 39, hc, hs => exact k_dup2 (q := (39, q)) C hc hs hrb k
  | 40, hc, hs => exact k_pop (q := (40, q)) C hc hs hrb k
  | 41, hc, hs => exact k_if_eq (q := (41, q)) C hc hs hrb k
  | 42, hc, hs => exact k_if_ne (q := (42, q)) C hc hs hrb k
  | 43, hc, hs => exact k_if_lt (q := (43, q)) C hc hs hrb k
  | 44, hc, hs => exact k_if_ge (q := (44, q)) C hc hs hrb k
  | 45, hc, hs => exact k_if_gt (q := (45, q)) C hc hs hrb k
  | 46, hc, hs => exact k_if_le (q := (46, q)) C hc hs hrb k
  | 47, hc, hs => exact k_icmp_eq (q := (47, q)) C hc hs hrb k
  | 48, hc, hs => exact k_icmp_ne (q := (48, q)) C hc hs hrb k
  | 49, hc, hs => exact k_icmp_lt (q := (49, q)) C hc hs hrb k
  | 50, hc, hs => exact k_icmp_ge (q := (50, q)) C hc hs hrb k
  | 51, hc, hs => exact k_icmp_gt (q := (51, q)) C hc hs hrb k
  | 52, hc, hs => exact k_icmp_le (q := (52, q)) C hc hs hrb k
  | 53, hc, hs => exact k_goto (q := (53, q)) C hc hs hrb k
  | 54, hc, hs => exact k_tswitch (q := (54, q)) C hc hs hrb k
  | 55, hc, hs => exact k_getI (q := (55, q)) C hc hs hrb k
  | 56, hc, hs => exact k_getJ (q := (56, q)) C hc hs hrb k
  | 57, hc, hs => exact k_getR (q := (57, q)) C hc hs hrb k
  | 58, hc, hs => exact k_putI (q := (58, q)) C hc hs hrb k
  | 59, hc, hs => exact k_putZ (q := (59, q)) C hc hs hrb k
  | 60, hc, hs => exact k_putJ (q := (60, q)) C hc hs hrb k
  | 61, hc, hs => exact k_putR (q := (61, q)) C hc hs hrb k
  | 62, hc, hs => exact k_putF (q := (62, q)) C hc hs hrb k
  | 63, hc, hs => exact k_iald (q := (63, q)) C hc hs hrb k
  | 64, hc, hs => exact k_iast (q := (64, q)) C hc hs hrb k
  | 65, hc, hs => exact k_lald (q := (65, q)) C hc hs hrb k
  | 66, hc, hs => exact k_last (q := (66, q)) C hc hs hrb k
  | 67, hc, hs => exact k_bald (q := (67, q)) C hc hs hrb k
  | 68, hc, hs => exact k_bast (q := (68, q)) C hc hs hrb k
  | 69, hc, hs => exact k_zald (q := (69, q)) C hc hs hrb k
  | 70, hc, hs => exact k_zast (q := (70, q)) C hc hs hrb k
  | 71, hc, hs => exact k_aald (q := (71, q)) C hc hs hrb k
  | 72, hc, hs => exact k_aast (q := (72, q)) C hc hs hrb k
  | 73, hc, hs => exact k_alen (q := (73, q)) C hc hs hrb k
  | 74, hc, hs => exact k_newa (q := (74, q)) C hc hs hrb k
  | 75, hc, hs => exact k_newq (q := (75, q)) C hc hs hrb k
  | 76, hc, hs => exact k_new (q := (76, q)) C hc hs hrb k
  | 77, hc, hs => exact (nn_ivS (q := (77, q)) hs).elim
  | 78, hc, hs => exact (nn_ivV (q := (78, q)) hs).elim
  | 79, hc, hs => exact (nn_ivI (q := (79, q)) hs).elim
  | 80, hc, hs => exact (nn_ivN (q := (80, q)) hs).elim
  | 81, hc, hs => exact k_oinit (q := (81, q)) C hc hs hdep hrb k
  | 82, hc, hs => exact k_acopy (q := (82, q)) C hc hs hrb k
  | 83, hc, hs => exact (nn_throw (q := (83, q)) hs).elim
  | 84, hc, hs => exact k_ldcs (q := (84, q)) C hc hs hrb k
  | 85, hc, hs => exact k_sld (q := (85, q)) C hc hs hrb k
  | 86, hc, hs => exact k_slen (q := (86, q)) C hc hs hrb k
  | 87, hc, hs => exact (nn_iret (q := (87, q)) hs).elim
  | 88, hc, hs => exact (nn_zret (q := (88, q)) hs).elim
  | 89, hc, hs => exact (nn_lret (q := (89, q)) hs).elim
  | 90, hc, hs => exact (nn_vret (q := (90, q)) hs).elim
  | 91, hc, hs => exact k_slength (q := (91, q)) C hc hs hrb k
  | 92, hc, hs => exact k_scharAt (q := (92, q)) C hc hs hrb k
  | 93, hc, hs => exact k_mmin (q := (93, q)) C hc hs hrb k
  | 94, hc, hs => exact k_mmax (q := (94, q)) C hc hs hrb k
  | n + 95, hc, hs => cases hs
theorem d_end {o : PO} {mc ms : Nat} (C : CX p l R s m args meth c A adK adV b Ls xs x) (hc : ckq x σ.1 q = true) (hs : pstep q σ = some (Sum.inr (Sum.inr o))) (hR1 : mc ≤ R.cells) (hR2 : ms ≤ R.slots) {nx' : Nat} (hnx : nx' = match o with | Sum.inl _ => σ.2.2.2.2.1 | Sum.inr _ => σ.2.2.2.2.1 + 1) (h1 : c0 + mc = σ.2.2.2.1.length + nx') (h2 : s0 + ms = szs σ.2.2.2.1 + 6 * nx') :
    Go p l e R s m args below meth c (vx_MQ below (QcM D A Ls xs ads0 σ.2.2.2.1 σ.2.2.2.2.2 o) (XcM D A Ls xs ads0 σ.2.2.2.1 σ.2.2.2.2.2 o) args s mc ms A) D A adK b Ls xs x.2.2.1 x.2.2.2.2.2.2 c0 s0 ads0 σ := by
  obtain ⟨op, q⟩ := q
  match op, hc, hs with
  | 0, hc, hs => cases hs
  | 1, hc, hs => exact (nc_iconst (q := (1, q)) hs).elim
  | 2, hc, hs => exact (nc_bipush (q := (2, q)) hs).elim
  | 3, hc, hs => exact (nc_sipush (q := (3, q)) hs).elim
  | 4, hc, hs => exact (nc_lconst (q := (4, q)) hs).elim
  | 5, hc, hs => exact (nc_ldci (q := (5, q)) hs).elim
  | 6, hc, hs => exact (nc_iload_n (q := (6, q)) hs).elim
  | 7, hc, hs => exact (nc_iload (q := (7, q)) hs).elim
  | 8, hc, hs => exact (nc_lload_n (q := (8, q)) hs).elim
  | 9, hc, hs => exact (nc_lload (q := (9, q)) hs).elim
  | 10, hc, hs => exact (nc_aload_n (q := (10, q)) hs).elim
  | 11, hc, hs => exact (nc_aload (q := (11, q)) hs).elim
  | 12, hc, hs => exact (nc_istore_n (q := (12, q)) hs).elim
  | 13, hc, hs => exact (nc_istore (q := (13, q)) hs).elim
  | 14, hc, hs => exact (nc_lstore_n (q := (14, q)) hs).elim
  | 15, hc, hs => exact (nc_lstore (q := (15, q)) hs).elim
  | 16, hc, hs => exact (nc_astore_n (q := (16, q)) hs).elim
  | 17, hc, hs => exact (nc_astore (q := (17, q)) hs).elim
  | 18, hc, hs => exact (nc_iinc (q := (18, q)) hs).elim
  | 19, hc, hs => exact (nc_iadd (q := (19, q)) hs).elim
  | 20, hc, hs => exact (nc_isub (q := (20, q)) hs).elim
  | 21, hc, hs => exact (nc_imul (q := (21, q)) hs).elim
  | 22, hc, hs => exact (nc_iand (q := (22, q)) hs).elim
  | 23, hc, hs => exact (nc_ior (q := (23, q)) hs).elim
  | 24, hc, hs => exact (nc_idiv (q := (24, q)) hs).elim
  | 25, hc, hs => exact (nc_irem (q := (25, q)) hs).elim
  | 26, hc, hs => exact (nc_ishl (q := (26, q)) hs).elim
  | 27, hc, hs => exact (nc_ishr (q := (27, q)) hs).elim
  | 28, hc, hs => exact (nc_iushr (q := (28, q)) hs).elim
  | 29, hc, hs => exact (nc_ladd (q := (29, q)) hs).elim
  | 30, hc, hs => exact (nc_lsub (q := (30, q)) hs).elim
  | 31, hc, hs => exact (nc_lmul (q := (31, q)) hs).elim
  | 32, hc, hs => exact (nc_lor (q := (32, q)) hs).elim
  | 33, hc, hs => exact (nc_lshl (q := (33, q)) hs).elim
  | 34, hc, hs => exact (nc_lcmp (q := (34, q)) hs).elim
  | 35, hc, hs => exact (nc_i2l (q := (35, q)) hs).elim
  | 36, hc, hs => exact (nc_l2i (q := (36, q)) hs).elim
  | 37, hc, hs => exact (nc_i2b (q := (37, q)) hs).elim
  | 38, hc, hs => exact (nc_dup (q := (38, q)) hs).elim
  | 39, hc, hs => exact (nc_dup2 (q := (39, q)) hs).elim
  | 40, hc, hs => exact (nc_pop (q := (40, q)) hs).elim
  | 41, hc, hs => exact (nc_if_eq (q := (41, q)) hs).elim
  | 42, hc, hs => exact (nc_if_ne (q := (42, q)) hs).elim
  | 43, hc, hs => exact (nc_if_lt (q := (43, q)) hs).elim
  | 44, hc, hs => exact (nc_if_ge (q := (44, q)) hs).elim
  | 45, hc, hs => exact (nc_if_gt (q := (45, q)) hs).elim
  | 46, hc, hs => exact (nc_if_le (q := (46, q)) hs).elim
  | 47, hc, hs => exact (nc_icmp_eq (q := (47, q)) hs).elim
  | 48, hc, hs => exact (nc_icmp_ne (q := (48, q)) hs).elim
  | 49, hc, hs => exact (nc_icmp_lt (q := (49, q)) hs).elim
  | 50, hc, hs => exact (nc_icmp_ge (q := (50, q)) hs).elim
  | 51, hc, hs => exact (nc_icmp_gt (q := (51, q)) hs).elim
  | 52, hc, hs => exact (nc_icmp_le (q := (52, q)) hs).elim
  | 53, hc, hs => exact (nc_goto (q := (53, q)) hs).elim
  | 54, hc, hs => exact (nc_tswitch (q := (54, q)) hs).elim
  | 55, hc, hs => exact (nc_getI (q := (55, q)) hs).elim
  | 56, hc, hs => exact (nc_getJ (q := (56, q)) hs).elim
  | 57, hc, hs => exact (nc_getR (q := (57, q)) hs).elim
  | 58, hc, hs => exact (nc_putI (q := (58, q)) hs).elim
  | 59, hc, hs => exact (nc_putZ (q := (59, q)) hs).elim
  | 60, hc, hs => exact (nc_putJ (q := (60, q)) hs).elim
  | 61, hc, hs => exact (nc_putR (q := (61, q)) hs).elim
  | 62, hc, hs => exact (nc_putF (q := (62, q)) hs).elim
  | 63, hc, hs => exact (nc_iald (q := (63, q)) hs).elim
  | 64, hc, hs => exact (nc_iast (q := (64, q)) hs).elim
  | 65, hc, hs => exact (nc_lald (q := (65, q)) hs).elim
  | 66, hc, hs => exact (nc_last (q := (66, q)) hs).elim
  | 67, hc, hs => exact (nc_bald (q := (67, q)) hs).elim
  | 68, hc, hs => exact (nc_bast (q := (68, q)) hs).elim
  | 69, hc, hs => exact (nc_zald (q := (69, q)) hs).elim
  | 70, hc, hs => exact (nc_zast (q := (70, q)) hs).elim
  | 71, hc, hs => exact (nc_aald (q := (71, q)) hs).elim
  | 72, hc, hs => exact (nc_aast (q := (72, q)) hs).elim
  | 73, hc, hs => exact (nc_alen (q := (73, q)) hs).elim
  | 74, hc, hs => exact (nc_newa (q := (74, q)) hs).elim
  | 75, hc, hs => exact (nc_newq (q := (75, q)) hs).elim
  | 76, hc, hs => exact (nc_new (q := (76, q)) hs).elim
  | 77, hc, hs => exact (ne_ivS (q := (77, q)) hs).elim
  | 78, hc, hs => exact (ne_ivV (q := (78, q)) hs).elim
  | 79, hc, hs => exact (ne_ivI (q := (79, q)) hs).elim
  | 80, hc, hs => exact (ne_ivN (q := (80, q)) hs).elim
  | 81, hc, hs => exact (nc_oinit (q := (81, q)) hs).elim
  | 82, hc, hs => exact (nc_acopy (q := (82, q)) hs).elim
  | 83, hc, hs =>
    have ho : ∃ ex, o = Sum.inr ex := by
      have hs2 : s_throw (83, q) σ = some (Sum.inr (Sum.inr o)) := hs
      unfold s_throw at hs2
      (repeat' split at hs2) <;> cases hs2
      exact ⟨_, rfl⟩
    obtain ⟨ex, rfl⟩ := ho
    dsimp only at hnx
    subst hnx
    exact r_throw (q := (83, q)) C hc hs h1 h2 hR1 hR2
  | 84, hc, hs => exact (nc_ldcs (q := (84, q)) hs).elim
  | 85, hc, hs => exact (nc_sld (q := (85, q)) hs).elim
  | 86, hc, hs => exact (nc_slen (q := (86, q)) hs).elim
  | 87, hc, hs =>
    have ho : ∃ v, o = Sum.inl v := by
      have hs2 : s_iret (87, q) σ = some (Sum.inr (Sum.inr o)) := hs
      unfold s_iret at hs2
      (repeat' split at hs2) <;> cases hs2
      exact ⟨_, rfl⟩
    obtain ⟨v, rfl⟩ := ho
    dsimp only at hnx
    subst hnx
    exact r_iret (q := (87, q)) C hc hs h1 h2
  | 88, hc, hs =>
    have ho : ∃ v, o = Sum.inl v := by
      have hs2 : s_zret (88, q) σ = some (Sum.inr (Sum.inr o)) := hs
      unfold s_zret at hs2
      (repeat' split at hs2) <;> cases hs2
      exact ⟨_, rfl⟩
    obtain ⟨v, rfl⟩ := ho
    dsimp only at hnx
    subst hnx
    exact r_zret (q := (88, q)) C hc hs h1 h2
  | 89, hc, hs =>
    have ho : ∃ v, o = Sum.inl v := by
      have hs2 : s_lret (89, q) σ = some (Sum.inr (Sum.inr o)) := hs
      unfold s_lret at hs2
      (repeat' split at hs2) <;> cases hs2
      exact ⟨_, rfl⟩
    obtain ⟨v, rfl⟩ := ho
    dsimp only at hnx
    subst hnx
    exact r_lret (q := (89, q)) C hc hs h1 h2
  | 90, hc, hs =>
    have ho : ∃ v, o = Sum.inl v := by
      have hs2 : s_vret (90, q) σ = some (Sum.inr (Sum.inr o)) := hs
      unfold s_vret at hs2
      (repeat' split at hs2) <;> cases hs2
      exact ⟨_, rfl⟩
    obtain ⟨v, rfl⟩ := ho
    dsimp only at hnx
    subst hnx
    exact r_vret (q := (90, q)) C hc hs h1 h2
  | 91, hc, hs => exact (nc_slength (q := (91, q)) hs).elim
  | 92, hc, hs => exact (nc_scharAt (q := (92, q)) hs).elim
  | 93, hc, hs => exact (nc_mmin (q := (93, q)) hs).elim
  | 94, hc, hs => exact (nc_mmax (q := (94, q)) hs).elim
  | n + 95, hc, hs => cases hs
theorem d_call {y : MI} (C : CX p l R s m args meth c A adK adV b Ls xs x) {mj pc' : Nat} {cargs st' : List PV} {o : PO} {lay1 : PY} {nx1 : Nat} {h1 : PC} (hc : ckq x σ.1 q = true) (hs : pstep q σ = some (Sum.inr (Sum.inl (mj, cargs, pc', st')))) (hy : mtab[mj]? = some y) (hpi : pini.getD mj 0 = 1 → o = Sum.inl none)
    {mc ms : Nat} (hctr : Ctr l D adK adV b Ls xs y cargs σ.2.2.2.1 σ.2.2.2.2.2 mc ms o lay1 h1) (hc1 : σ.2.2.2.1.length + σ.2.2.2.2.1 + mc = lay1.length + nx1) (hs1 : szs σ.2.2.2.1 + 6 * σ.2.2.2.2.1 + ms = szs lay1 + 6 * nx1) (hb1 : lay1.length + nx1 ≤ c0 + R.cells) (hb2 : szs lay1 + 6 * nx1 ≤ s0 + R.slots)
    (kret : ∀ v, o = Sum.inl v → Go p l e R s m args below meth c Q D A adK b Ls xs x.2.2.1 x.2.2.2.2.2.2 c0 s0 ads0 (pc', σ.2.1, v.toList ++ st', lay1, nx1, h1))
    (kthr : ∀ ex, o = Sum.inr ex → KThr p l e R s m args below meth c Q D A adK b Ls xs x.2.2.1 x.2.2.2.2.2.2 c0 s0 ads0 σ.1 σ.2.1 lay1 nx1 h1 ex) : Go p l e R s m args below meth c Q D A adK b Ls xs x.2.2.1 x.2.2.2.2.2.2 c0 s0 ads0 σ := by
  obtain ⟨op, q⟩ := q
  match op, hc, hs with
  | 0, hc, hs => cases hs
  | 1, hc, hs => exact (nc_iconst (q := (1, q)) hs).elim
  | 2, hc, hs => exact (nc_bipush (q := (2, q)) hs).elim
  | 3, hc, hs => exact (nc_sipush (q := (3, q)) hs).elim
  | 4, hc, hs => exact (nc_lconst (q := (4, q)) hs).elim
  | 5, hc, hs => exact (nc_ldci (q := (5, q)) hs).elim
  | 6, hc, hs => exact (nc_iload_n (q := (6, q)) hs).elim
  | 7, hc, hs => exact (nc_iload (q := (7, q)) hs).elim
  | 8, hc, hs => exact (nc_lload_n (q := (8, q)) hs).elim
  | 9, hc, hs => exact (nc_lload (q := (9, q)) hs).elim
  | 10, hc, hs => exact (nc_aload_n (q := (10, q)) hs).elim
  | 11, hc, hs => exact (nc_aload (q := (11, q)) hs).elim
  | 12, hc, hs => exact (nc_istore_n (q := (12, q)) hs).elim
  | 13, hc, hs => exact (nc_istore (q := (13, q)) hs).elim
  | 14, hc, hs => exact (nc_lstore_n (q := (14, q)) hs).elim
  | 15, hc, hs => exact (nc_lstore (q := (15, q)) hs).elim
  | 16, hc, hs => exact (nc_astore_n (q := (16, q)) hs).elim
  | 17, hc, hs => exact (nc_astore (q := (17, q)) hs).elim
  | 18, hc, hs => exact (nc_iinc (q := (18, q)) hs).elim
  | 19, hc, hs => exact (nc_iadd (q := (19, q)) hs).elim
  | 20, hc, hs => exact (nc_isub (q := (20, q)) hs).elim
  | 21, hc, hs => exact (nc_imul (q := (21, q)) hs).elim
  | 22, hc, hs => exact (nc_iand (q := (22, q)) hs).elim
  | 23, hc, hs => exact (nc_ior (q := (23, q)) hs).elim
  | 24, hc, hs => exact (nc_idiv (q := (24, q)) hs).elim
  | 25, hc, hs => exact (nc_irem (q := (25, q)) hs).elim
  | 26, hc, hs => exact (nc_ishl (q := (26, q)) hs).elim
  | 27, hc, hs => exact (nc_ishr (q := (27, q)) hs).elim
  | 28, hc, hs => exact (nc_iushr (q := (28, q)) hs).elim
  | 29, hc, hs => exact (nc_ladd (q := (29, q)) hs).elim
  | 30, hc, hs => exact (nc_lsub (q := (30, q)) hs).elim
  | 31, hc, hs => exact (nc_lmul (q := (31, q)) hs).elim
  | 32, hc, hs => exact (nc_lor (q := (32, q)) hs).elim
  | 33, hc, hs => exact (nc_lshl (q := (33, q)) hs).elim
  | 34, hc, hs => exact (nc_lcmp (q := (34, q)) hs).elim
  | 35, hc, hs => exact (nc_i2l (q := (35, q)) hs).elim
  | 36, hc, hs => exact (nc_l2i (q := (36, q)) hs).elim
  | 37, hc, hs => exact (nc_i2b (q := (37, q)) hs).elim
  | 38, hc, hs => exact (nc_dup (q := (38, q)) hs).elim
  | 39, hc, hs => exact (nc_dup2 (q := (39, q)) hs).elim
  | 40, hc, hs => exact (nc_pop (q := (40, q)) hs).elim
  | 41, hc, hs => exact (nc_if_eq (q := (41, q)) hs).elim
  | 42, hc, hs => exact (nc_if_ne (q := (42, q)) hs).elim
  | 43, hc, hs => exact (nc_if_lt (q := (43, q)) hs).elim
  | 44, hc, hs => exact (nc_if_ge (q := (44, q)) hs).elim
  | 45, hc, hs => exact (nc_if_gt (q := (45, q)) hs).elim
  | 46, hc, hs => exact (nc_if_le (q := (46, q)) hs).elim
  | 47, hc, hs => exact (nc_icmp_eq (q := (47, q)) hs).elim
  | 48, hc, hs => exact (nc_icmp_ne (q := (48, q)) hs).elim
  | 49, hc, hs => exact (nc_icmp_lt (q := (49, q)) hs).elim
  | 50, hc, hs => exact (nc_icmp_ge (q := (50, q)) hs).elim
  | 51, hc, hs => exact (nc_icmp_gt (q := (51, q)) hs).elim
  | 52, hc, hs => exact (nc_icmp_le (q := (52, q)) hs).elim
  | 53, hc, hs => exact (nc_goto (q := (53, q)) hs).elim
  | 54, hc, hs => exact (nc_tswitch (q := (54, q)) hs).elim
  | 55, hc, hs => exact (nc_getI (q := (55, q)) hs).elim
  | 56, hc, hs => exact (nc_getJ (q := (56, q)) hs).elim
  | 57, hc, hs => exact (nc_getR (q := (57, q)) hs).elim
  | 58, hc, hs => exact (nc_putI (q := (58, q)) hs).elim
  | 59, hc, hs => exact (nc_putZ (q := (59, q)) hs).elim
  | 60, hc, hs => exact (nc_putJ (q := (60, q)) hs).elim
  | 61, hc, hs => exact (nc_putR (q := (61, q)) hs).elim
  | 62, hc, hs => exact (nc_putF (q := (62, q)) hs).elim
  | 63, hc, hs => exact (nc_iald (q := (63, q)) hs).elim
  | 64, hc, hs => exact (nc_iast (q := (64, q)) hs).elim
  | 65, hc, hs => exact (nc_lald (q := (65, q)) hs).elim
  | 66, hc, hs => exact (nc_last (q := (66, q)) hs).elim
  | 67, hc, hs => exact (nc_bald (q := (67, q)) hs).elim
  | 68, hc, hs => exact (nc_bast (q := (68, q)) hs).elim
  | 69, hc, hs => exact (nc_zald (q := (69, q)) hs).elim
  | 70, hc, hs => exact (nc_zast (q := (70, q)) hs).elim
  | 71, hc, hs => exact (nc_aald (q := (71, q)) hs).elim
  | 72, hc, hs => exact (nc_aast (q := (72, q)) hs).elim
  | 73, hc, hs => exact (nc_alen (q := (73, q)) hs).elim
  | 74, hc, hs => exact (nc_newa (q := (74, q)) hs).elim
  | 75, hc, hs => exact (nc_newq (q := (75, q)) hs).elim
  | 76, hc, hs => exact (nc_new (q := (76, q)) hs).elim
  | 77, hc, hs => exact call_S (q := (77, q)) C hc hs hy hctr hc1 hs1 hb1 hb2 kret kthr
  | 78, hc, hs => exact call_V (q := (78, q)) C hc hs hy hctr hc1 hs1 hb1 hb2 kret kthr
  | 79, hc, hs =>
    have hp1 : pini.getD mj 0 = 1 := by
      have hs2 : s_ivI (79, q) σ = some (Sum.inr (Sum.inl (mj, cargs, pc', st'))) := hs
      have hc2 : c_ivI x σ.1 (79, q) = true := hc
      unfold s_ivI at hs2
      (repeat' split at hs2) <;> cases hs2
      simp only [c_ivI, Bool.and_eq_true, decide_eq_true_eq] at hc2
      obtain ⟨-, hc2⟩ := hc2
      split at hc2
      · simp only [Bool.and_eq_true, decide_eq_true_eq] at hc2
        exact hc2.2.2.2.2.2.2.2.2.2.2.2
      · cases hc2
    exact call_I (q := (79, q)) C hc hs hy hctr hc1 hs1 hb1 hb2 kret (hpi hp1) (href_ivI hs)
  | 80, hc, hs =>
    have hp1 : pini.getD mj 0 = 1 := by
      have hs2 : s_ivN (80, q) σ = some (Sum.inr (Sum.inl (mj, cargs, pc', st'))) := hs
      have hc2 : c_ivN x σ.1 (80, q) = true := hc
      unfold s_ivN at hs2
      (repeat' split at hs2) <;> cases hs2
      simp only [c_ivN, Bool.and_eq_true, decide_eq_true_eq] at hc2
      obtain ⟨-, hc2⟩ := hc2
      split at hc2
      · simp only [Bool.and_eq_true, decide_eq_true_eq] at hc2
        exact hc2.2.2.2.2.2.2.2.2.2.2.2
      · cases hc2
    exact call_N (q := (80, q)) C hc hs hy hctr hc1 hs1 hb1 hb2 kret (hpi hp1) (href_ivN hs)
  | 81, hc, hs => exact (nc_oinit (q := (81, q)) hs).elim
  | 82, hc, hs => exact (nc_acopy (q := (82, q)) hs).elim
  | 83, hc, hs => exact (ni_throw (q := (83, q)) hs).elim
  | 84, hc, hs => exact (nc_ldcs (q := (84, q)) hs).elim
  | 85, hc, hs => exact (nc_sld (q := (85, q)) hs).elim
  | 86, hc, hs => exact (nc_slen (q := (86, q)) hs).elim
  | 87, hc, hs => exact (ni_iret (q := (87, q)) hs).elim
  | 88, hc, hs => exact (ni_zret (q := (88, q)) hs).elim
  | 89, hc, hs => exact (ni_lret (q := (89, q)) hs).elim
  | 90, hc, hs => exact (ni_vret (q := (90, q)) hs).elim
  | 91, hc, hs => exact (nc_slength (q := (91, q)) hs).elim
  | 92, hc, hs => exact (nc_scharAt (q := (92, q)) hs).elim
  | 93, hc, hs => exact (nc_mmin (q := (93, q)) hs).elim
  | 94, hc, hs => exact (nc_mmax (q := (94, q)) hs).elim
  | n + 95, hc, hs => cases hs
theorem tl_throw {ex : Nat} (hs : s_throw q σ = some (Sum.inr (Sum.inr (Sum.inr ex)))) : ex < 3 := by
  unfold s_throw at hs
  (repeat' split at hs) <;> cases hs
  rename_i hcond
  exact hcond.2

theorem tl_iret {ex : Nat} (hs : s_iret q σ = some (Sum.inr (Sum.inr (Sum.inr ex)))) : ex < 3 := by
  unfold s_iret at hs
  (repeat' split at hs) <;> cases hs

theorem tl_zret {ex : Nat} (hs : s_zret q σ = some (Sum.inr (Sum.inr (Sum.inr ex)))) : ex < 3 := by
  unfold s_zret at hs
  (repeat' split at hs) <;> cases hs

theorem tl_lret {ex : Nat} (hs : s_lret q σ = some (Sum.inr (Sum.inr (Sum.inr ex)))) : ex < 3 := by
  unfold s_lret at hs
  (repeat' split at hs) <;> cases hs

theorem tl_vret {ex : Nat} (hs : s_vret q σ = some (Sum.inr (Sum.inr (Sum.inr ex)))) : ex < 3 := by
  unfold s_vret at hs
  (repeat' split at hs) <;> cases hs

theorem thr_lt {ex : Nat} (hs : pstep q σ = some (Sum.inr (Sum.inr (Sum.inr ex)))) : ex < 3 := by
  obtain ⟨op, q⟩ := q
  match op, hs with
  | 0, hs => cases hs
  | 1, hs => exact (nc_iconst (q := (1, q)) hs).elim
  | 2, hs => exact (nc_bipush (q := (2, q)) hs).elim
  | 3, hs => exact (nc_sipush (q := (3, q)) hs).elim
  | 4, hs => exact (nc_lconst (q := (4, q)) hs).elim
  | 5, hs => exact (nc_ldci (q := (5, q)) hs).elim
  | 6, hs => exact (nc_iload_n (q := (6, q)) hs).elim
  | 7, hs => exact (nc_iload (q := (7, q)) hs).elim
  | 8, hs => exact (nc_lload_n (q := (8, q)) hs).elim
  | 9, hs => exact (nc_lload (q := (9, q)) hs).elim
  | 10, hs => exact (nc_aload_n (q := (10, q)) hs).elim
  | 11, hs => exact (nc_aload (q := (11, q)) hs).elim
  | 12, hs => exact (nc_istore_n (q := (12, q)) hs).elim
  | 13, hs => exact (nc_istore (q := (13, q)) hs).elim
  | 14, hs => exact (nc_lstore_n (q := (14, q)) hs).elim
  | 15, hs => exact (nc_lstore (q := (15, q)) hs).elim
  | 16, hs => exact (nc_astore_n (q := (16, q)) hs).elim
  | 17, hs => exact (nc_astore (q := (17, q)) hs).elim
  | 18, hs => exact (nc_iinc (q := (18, q)) hs).elim
  | 19, hs => exact (nc_iadd (q := (19, q)) hs).elim
  | 20, hs => exact (nc_isub (q := (20, q)) hs).elim
  | 21, hs => exact (nc_imul (q := (21, q)) hs).elim
  | 22, hs => exact (nc_iand (q := (22, q)) hs).elim
  | 23, hs => exact (nc_ior (q := (23, q)) hs).elim
  | 24, hs => exact (nc_idiv (q := (24, q)) hs).elim
  | 25, hs => exact (nc_irem (q := (25, q)) hs).elim
  | 26, hs => exact (nc_ishl (q := (26, q)) hs).elim
  | 27, hs => exact (nc_ishr (q := (27, q)) hs).elim
  | 28, hs => exact (nc_iushr (q := (28, q)) hs).elim
  | 29, hs => exact (nc_ladd (q := (29, q)) hs).elim
  | 30, hs => exact (nc_lsub (q := (30, q)) hs).elim
  | 31, hs => exact (nc_lmul (q := (31, q)) hs).elim
  | 32, hs => exact (nc_lor (q := (32, q)) hs).elim
  | 33, hs => exact (nc_lshl (q := (33, q)) hs).elim
  | 34, hs => exact (nc_lcmp (q := (34, q)) hs).elim
  | 35, hs => exact (nc_i2l (q := (35, q)) hs).elim
  | 36, hs => exact (nc_l2i (q := (36, q)) hs).elim
  | 37, hs => exact (nc_i2b (q := (37, q)) hs).elim
  | 38, hs => exact (nc_dup (q := (38, q)) hs).elim
  | 39, hs => exact (nc_dup2 (q := (39, q)) hs).elim
  | 40, hs => exact (nc_pop (q := (40, q)) hs).elim
  | 41, hs => exact (nc_if_eq (q := (41, q)) hs).elim
  | 42, hs => exact (nc_if_ne (q := (42, q)) hs).elim
  | 43, hs => exact (nc_if_lt (q := (43, q)) hs).elim
  | 44, hs => exact (nc_if_ge (q := (44, q)) hs).elim
  | 45, hs => exact (nc_if_gt (q := (45, q)) hs).elim
  | 46, hs => exact (nc_if_le (q := (46, q)) hs).elim
  | 47, hs => exact (nc_icmp_eq (q := (47, q)) hs).elim
  | 48, hs => exact (nc_icmp_ne (q := (48, q)) hs).elim
  | 49, hs => exact (nc_icmp_lt (q := (49, q)) hs).elim
  | 50, hs => exact (nc_icmp_ge (q := (50, q)) hs).elim
  | 51, hs => exact (nc_icmp_gt (q := (51, q)) hs).elim
  | 52, hs => exact (nc_icmp_le (q := (52, q)) hs).elim
  | 53, hs => exact (nc_goto (q := (53, q)) hs).elim
  | 54, hs => exact (nc_tswitch (q := (54, q)) hs).elim
  | 55, hs => exact (nc_getI (q := (55, q)) hs).elim
  | 56, hs => exact (nc_getJ (q := (56, q)) hs).elim
  | 57, hs => exact (nc_getR (q := (57, q)) hs).elim
  | 58, hs => exact (nc_putI (q := (58, q)) hs).elim
  | 59, hs => exact (nc_putZ (q := (59, q)) hs).elim
  | 60, hs => exact (nc_putJ (q := (60, q)) hs).elim
  | 61, hs => exact (nc_putR (q := (61, q)) hs).elim
  | 62, hs => exact (nc_putF (q := (62, q)) hs).elim
  | 63, hs => exact (nc_iald (q := (63, q)) hs).elim
  | 64, hs => exact (nc_iast (q := (64, q)) hs).elim
  | 65, hs => exact (nc_lald (q := (65, q)) hs).elim
  | 66, hs => exact (nc_last (q := (66, q)) hs).elim
  | 67, hs => exact (nc_bald (q := (67, q)) hs).elim
  | 68, hs => exact (nc_bast (q := (68, q)) hs).elim
  | 69, hs => exact (nc_zald (q := (69, q)) hs).elim
  | 70, hs => exact (nc_zast (q := (70, q)) hs).elim
  | 71, hs => exact (nc_aald (q := (71, q)) hs).elim
  | 72, hs => exact (nc_aast (q := (72, q)) hs).elim
  | 73, hs => exact (nc_alen (q := (73, q)) hs).elim
  | 74, hs => exact (nc_newa (q := (74, q)) hs).elim
  | 75, hs => exact (nc_newq (q := (75, q)) hs).elim
  | 76, hs => exact (nc_new (q := (76, q)) hs).elim
  | 77, hs => exact (ne_ivS (q := (77, q)) hs).elim
  | 78, hs => exact (ne_ivV (q := (78, q)) hs).elim
  | 79, hs => exact (ne_ivI (q := (79, q)) hs).elim
  | 80, hs => exact (ne_ivN (q := (80, q)) hs).elim
  | 81, hs => exact (nc_oinit (q := (81, q)) hs).elim
  | 82, hs => exact (nc_acopy (q := (82, q)) hs).elim
  | 83, hs => exact tl_throw (q := (83, q)) hs
  | 84, hs => exact (nc_ldcs (q := (84, q)) hs).elim
  | 85, hs => exact (nc_sld (q := (85, q)) hs).elim
  | 86, hs => exact (nc_slen (q := (86, q)) hs).elim
  | 87, hs => exact tl_iret (q := (87, q)) hs
  | 88, hs => exact tl_zret (q := (88, q)) hs
  | 89, hs => exact tl_lret (q := (89, q)) hs
  | 90, hs => exact tl_vret (q := (90, q)) hs
  | 91, hs => exact (nc_slength (q := (91, q)) hs).elim
  | 92, hs => exact (nc_scharAt (q := (92, q)) hs).elim
  | 93, hs => exact (nc_mmin (q := (93, q)) hs).elim
  | 94, hs => exact (nc_mmax (q := (94, q)) hs).elim
  | n + 95, hs => cases hs
end D1
