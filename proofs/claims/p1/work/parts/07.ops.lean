section G1
variable {p : Program} {l : Launch} {e : Env} {R : Room} {s : State} {m : MethodId} {args : Array Value} {below : List Frame} {meth : Method} {c : Code} {Q : State → Prop} {cc : ByteArray} {D : va_G} {A : Nat → Prop} {adK : Nat → Nat} {b Ls : Nat} {xs : Nat → Int32} {nL : Nat} {hj : Bool} {c0 s0 : Nat} {ads0 : List Nat} {q : PI} {σ σ' : PS}
theorem Go.mk {pc : Nat} {L : PL} {st : List PV} {lay : PY} {nx : Nat} {h : PC} (k : ∀ (ads : List Nat) (H : Heap) (locs : List Loc) (cells slots : Nat) (ls : Array Slot) (stv : List Value), ads0 <+: ads → WRel D s A Ls xs c0 s0 ads lay nx h H locs cells slots → LRel ads adK b nL L ls → NJ hj L → TRel ads adK b st stv → W p l e R s m args below meth c H locs cells slots Q (F0 m pc ls stv)) : Go p l e R s m args below meth c Q D A adK b Ls xs nL hj c0 s0 ads0 (pc, L, st, lay, nx, h) := k
theorem w32_id {x : Int} (h : -2147483648 ≤ x) (h2 : x < 2147483648) : w32 x = x := by
  unfold w32
  rw [Int.bmod_eq_of_le] <;> omega
theorem w8_id {x : Int} (h : -128 ≤ x) (h2 : x < 128) : w8 x = x := by
  unfold w8
  rw [Int.bmod_eq_of_le] <;> omega
theorem w16_id {x : Int} (h : -32768 ≤ x) (h2 : x < 32768) : x.bmod 65536 = x := by
  rw [Int.bmod_eq_of_le] <;> omega
theorem lc_id : ∀ n : Fin 2, (Int64.ofNat (n : Nat)).toInt = ((n : Nat) : Int) := by decide
theorem w64_id {x : Int} (h : -9223372036854775808 ≤ x) (h2 : x < 9223372036854775808) : w64 x = x := by
  unfold w64
  rw [Int.bmod_eq_of_le] <;> omega
theorem ofI32 (x : Int) : (Int32.ofInt x).toInt = w32 x := by rw [Int32.toInt_ofInt]; rfl
theorem ofI64 (x : Int) : (Int64.ofInt x).toInt = w64 x := by rw [Int64.toInt_ofInt]; rfl
theorem I32_ge (x : Int32) : -2147483648 ≤ x.toInt := by have := Int32.le_toInt x; simpa using this
theorem I32_lt (x : Int32) : x.toInt < 2147483648 := by have := Int32.toInt_lt x; simpa using this
theorem I64_ge (x : Int64) : -9223372036854775808 ≤ x.toInt := by have := Int64.le_toInt x; simpa using this
theorem I64_lt (x : Int64) : x.toInt < 9223372036854775808 := by have := Int64.toInt_lt x; simpa using this

theorem g_iconst (hx : p.tables.exec = Jvm.exec) (hb : c.code = cc) (h1 : -128 ≤ q.2.2.2.2) (h2 : q.2.2.2.2 < 128) (hd : decode cc σ.1 = .ok (.iconst q.2.2.2.2, 1)) (hs : s_iconst q σ = some (Sum.inl σ')) (k : Go p l e R s m args below meth c Q D A adK b Ls xs nL hj c0 s0 ads0 σ') : Go p l e R s m args below meth c Q D A adK b Ls xs nL hj c0 s0 ads0 σ := by
  unfold s_iconst pnext at hs
  obtain ⟨pc, L, st, lay, nx, h⟩ := σ
  cases hs
  refine Go.mk (fun ads H locs cells slots ls stv hads hW hL hN hT => ?_)
  refine lv_iconst hx hb hd rfl ?_
  exact k ads H locs cells slots ls _ hads hW hL hN ⟨⟨_, rfl, by rw [ofI32]; exact w32_id (by omega) (by omega)⟩, hT⟩

theorem g_bipush (hx : p.tables.exec = Jvm.exec) (hb : c.code = cc) (h1 : -128 ≤ q.2.2.2.2) (h2 : q.2.2.2.2 < 128) (hd : decode cc σ.1 = .ok (.bipush q.2.2.2.2, 2)) (hs : s_bipush q σ = some (Sum.inl σ')) (k : Go p l e R s m args below meth c Q D A adK b Ls xs nL hj c0 s0 ads0 σ') : Go p l e R s m args below meth c Q D A adK b Ls xs nL hj c0 s0 ads0 σ := by
  unfold s_bipush pnext at hs
  obtain ⟨pc, L, st, lay, nx, h⟩ := σ
  cases hs
  refine Go.mk (fun ads H locs cells slots ls stv hads hW hL hN hT => ?_)
  refine lv_bipush hx hb hd rfl ?_
  exact k ads H locs cells slots ls _ hads hW hL hN ⟨⟨_, rfl, by rw [Int8.toInt_toInt32, Int8.toInt_ofInt]; exact w8_id h1 h2⟩, hT⟩

theorem g_sipush (hx : p.tables.exec = Jvm.exec) (hb : c.code = cc) (h1 : -32768 ≤ q.2.2.2.2) (h2 : q.2.2.2.2 < 32768) (hd : decode cc σ.1 = .ok (.sipush q.2.2.2.2, 3)) (hs : s_sipush q σ = some (Sum.inl σ')) (k : Go p l e R s m args below meth c Q D A adK b Ls xs nL hj c0 s0 ads0 σ') : Go p l e R s m args below meth c Q D A adK b Ls xs nL hj c0 s0 ads0 σ := by
  unfold s_sipush pnext at hs
  obtain ⟨pc, L, st, lay, nx, h⟩ := σ
  cases hs
  refine Go.mk (fun ads H locs cells slots ls stv hads hW hL hN hT => ?_)
  refine lv_sipush hx hb hd rfl ?_
  exact k ads H locs cells slots ls _ hads hW hL hN ⟨⟨_, rfl, by rw [Int16.toInt_toInt32, Int16.toInt_ofInt]; exact w16_id h1 h2⟩, hT⟩

theorem g_lconst (hx : p.tables.exec = Jvm.exec) (hb : c.code = cc) {n : Fin 2} (hn : ((n : Nat) : Int) = q.2.2.2.2) (hd : decode cc σ.1 = .ok (.lconst n, 1)) (hs : s_lconst q σ = some (Sum.inl σ')) (k : Go p l e R s m args below meth c Q D A adK b Ls xs nL hj c0 s0 ads0 σ') : Go p l e R s m args below meth c Q D A adK b Ls xs nL hj c0 s0 ads0 σ := by
  unfold s_lconst pnext at hs
  obtain ⟨pc, L, st, lay, nx, h⟩ := σ
  cases hs
  refine Go.mk (fun ads H locs cells slots ls stv hads hW hL hN hT => ?_)
  refine lv_lconst hx hb hd rfl ?_
  exact k ads H locs cells slots ls _ hads hW hL hN ⟨⟨_, rfl, by rw [← hn]; exact lc_id n⟩, hT⟩

theorem g_ldci (hx : p.tables.exec = Jvm.exec) (hb : c.code = cc) {own : String} {v : Int32} (hown : s.vm.findClass own = some m.cls) (hconst : (Jvm.Cond.constant own q.2.1 v).before args s = true) (hv : v.toInt = q.2.2.2.2) (hd : decode cc σ.1 = .ok (.ldc_w q.2.1, 3)) (hs : s_ldci q σ = some (Sum.inl σ')) (k : Go p l e R s m args below meth c Q D A adK b Ls xs nL hj c0 s0 ads0 σ') : Go p l e R s m args below meth c Q D A adK b Ls xs nL hj c0 s0 ads0 σ := by
  unfold s_ldci pnext at hs
  obtain ⟨pc, L, st, lay, nx, h⟩ := σ
  cases hs
  refine Go.mk (fun ads H locs cells slots ls stv hads hW hL hN hT => ?_)
  refine lv_ldcw hx hb hown hconst hd ?_
  exact k ads H locs cells slots ls _ hads hW hL hN ⟨⟨_, rfl, hv⟩, hT⟩

theorem g_iload_n (hx : p.tables.exec = Jvm.exec) (hb : c.code = cc) {i : Fin 4} (hi : (i : Nat) = q.2.1) (hd : decode cc σ.1 = .ok (.iload_n i, 1)) (hs : s_iload_n q σ = some (Sum.inl σ')) (k : Go p l e R s m args below meth c Q D A adK b Ls xs nL hj c0 s0 ads0 σ') : Go p l e R s m args below meth c Q D A adK b Ls xs nL hj c0 s0 ads0 σ := by
  obtain ⟨pc, L, st, lay, nx, h⟩ := σ
  simp only [s_iload_n, pnext] at hs
  split at hs
  · rename_i x hg
    cases hs
    refine Go.mk (fun ads H locs cells slots ls stv hads hW hL hN hT => ?_)
    obtain ⟨v, hv, hl⟩ := hL.load hg
    obtain ⟨y, rfl, hy⟩ := hv
    refine lv_iload_n hx hb hd hi hl ?_
    exact k ads H locs cells slots ls _ hads hW hL hN ⟨⟨y, rfl, hy⟩, hT⟩
  · cases hs

theorem g_iload (hx : p.tables.exec = Jvm.exec) (hb : c.code = cc) (hd : decode cc σ.1 = .ok (.iload q.2.1, 2)) (hs : s_iload q σ = some (Sum.inl σ')) (k : Go p l e R s m args below meth c Q D A adK b Ls xs nL hj c0 s0 ads0 σ') : Go p l e R s m args below meth c Q D A adK b Ls xs nL hj c0 s0 ads0 σ := by
  obtain ⟨pc, L, st, lay, nx, h⟩ := σ
  simp only [s_iload, pnext] at hs
  split at hs
  · rename_i x hg
    cases hs
    refine Go.mk (fun ads H locs cells slots ls stv hads hW hL hN hT => ?_)
    obtain ⟨v, hv, hl⟩ := hL.load hg
    obtain ⟨y, rfl, hy⟩ := hv
    refine lv_iload hx hb hd hl ?_
    exact k ads H locs cells slots ls _ hads hW hL hN ⟨⟨y, rfl, hy⟩, hT⟩
  · cases hs

theorem g_lload_n (hx : p.tables.exec = Jvm.exec) (hb : c.code = cc) {i : Fin 4} (hi : (i : Nat) = q.2.1) (hd : decode cc σ.1 = .ok (.lload_n i, 1)) (hs : s_lload_n q σ = some (Sum.inl σ')) (k : Go p l e R s m args below meth c Q D A adK b Ls xs nL hj c0 s0 ads0 σ') : Go p l e R s m args below meth c Q D A adK b Ls xs nL hj c0 s0 ads0 σ := by
  obtain ⟨pc, L, st, lay, nx, h⟩ := σ
  simp only [s_lload_n, pnext] at hs
  split at hs
  · rename_i x hg
    cases hs
    refine Go.mk (fun ads H locs cells slots ls stv hads hW hL hN hT => ?_)
    obtain ⟨v, hv, hl⟩ := hL.load hg
    obtain ⟨y, rfl, hy⟩ := hv
    refine lv_lload_n hx hb hd hi hl ?_
    exact k ads H locs cells slots ls _ hads hW hL hN ⟨⟨y, rfl, hy⟩, hT⟩
  · cases hs

theorem g_lload (hx : p.tables.exec = Jvm.exec) (hb : c.code = cc) (hd : decode cc σ.1 = .ok (.lload q.2.1, 2)) (hs : s_lload q σ = some (Sum.inl σ')) (k : Go p l e R s m args below meth c Q D A adK b Ls xs nL hj c0 s0 ads0 σ') : Go p l e R s m args below meth c Q D A adK b Ls xs nL hj c0 s0 ads0 σ := by
  obtain ⟨pc, L, st, lay, nx, h⟩ := σ
  simp only [s_lload, pnext] at hs
  split at hs
  · rename_i x hg
    cases hs
    refine Go.mk (fun ads H locs cells slots ls stv hads hW hL hN hT => ?_)
    obtain ⟨v, hv, hl⟩ := hL.load hg
    obtain ⟨y, rfl, hy⟩ := hv
    refine lv_lload hx hb hd hl ?_
    exact k ads H locs cells slots ls _ hads hW hL hN ⟨⟨y, rfl, hy⟩, hT⟩
  · cases hs

theorem g_aload_n (hx : p.tables.exec = Jvm.exec) (hb : c.code = cc) {i : Fin 4} (hi : (i : Nat) = q.2.1) (hd : decode cc σ.1 = .ok (.aload_n i, 1)) (hs : s_aload_n q σ = some (Sum.inl σ')) (k : Go p l e R s m args below meth c Q D A adK b Ls xs nL hj c0 s0 ads0 σ') : Go p l e R s m args below meth c Q D A adK b Ls xs nL hj c0 s0 ads0 σ := by
  obtain ⟨pc, L, st, lay, nx, h⟩ := σ
  simp only [s_aload_n, pnext] at hs
  split at hs
  · rename_i x hg
    cases hs
    refine Go.mk (fun ads H locs cells slots ls stv hads hW hL hN hT => ?_)
    obtain ⟨v, hv, hl⟩ := hL.load hg
    obtain ⟨a, rfl⟩ := VR.ref hv
    refine lv_aload_n hx hb hd hi hl ?_
    exact k ads H locs cells slots ls _ hads hW hL hN ⟨hv, hT⟩
  · cases hs

theorem g_aload (hx : p.tables.exec = Jvm.exec) (hb : c.code = cc) (hd : decode cc σ.1 = .ok (.aload q.2.1, 2)) (hs : s_aload q σ = some (Sum.inl σ')) (k : Go p l e R s m args below meth c Q D A adK b Ls xs nL hj c0 s0 ads0 σ') : Go p l e R s m args below meth c Q D A adK b Ls xs nL hj c0 s0 ads0 σ := by
  obtain ⟨pc, L, st, lay, nx, h⟩ := σ
  simp only [s_aload, pnext] at hs
  split at hs
  · rename_i x hg
    cases hs
    refine Go.mk (fun ads H locs cells slots ls stv hads hW hL hN hT => ?_)
    obtain ⟨v, hv, hl⟩ := hL.load hg
    obtain ⟨a, rfl⟩ := VR.ref hv
    refine lv_aload hx hb hd hl ?_
    exact k ads H locs cells slots ls _ hads hW hL hN ⟨hv, hT⟩
  · cases hs

theorem g_istore_n (hx : p.tables.exec = Jvm.exec) (hb : c.code = cc) {i : Fin 4} (hi : (i : Nat) = q.2.1) (hin : q.2.1 < nL) (hq : q.2.2.1 = 0 → hj = false) (hd : decode cc σ.1 = .ok (.istore_n i, 1)) (hs : s_istore_n q σ = some (Sum.inl σ')) (k : Go p l e R s m args below meth c Q D A adK b Ls xs nL hj c0 s0 ads0 σ') : Go p l e R s m args below meth c Q D A adK b Ls xs nL hj c0 s0 ads0 σ := by
  unfold s_istore_n pnext at hs
  split at hs
  · rename_i pc L x st lay nx h
    cases hs
    refine Go.mk (fun ads H locs cells slots ls stv hads hW hL hN hT => ?_)
    obtain ⟨h0, lv, h1, h2⟩ := hL
    obtain ⟨x', vs2, rfl, hx', hT⟩ := hT.consI
    refine lv_istore_n hx hb hd hi h1 hin rfl (fun ls' hl' => ?_)
    obtain ⟨r1, r2⟩ := LRel.store (q := q) h0 h2 hN (pv := Sum.inl x) ⟨x', rfl, hx'⟩ rfl hq hl'
    exact k ads H locs cells slots ls' _ hads hW r1 r2 hT
  · cases hs

theorem g_istore (hx : p.tables.exec = Jvm.exec) (hb : c.code = cc) (hin : q.2.1 < nL) (hq : q.2.2.1 = 0 → hj = false) (hd : decode cc σ.1 = .ok (.istore q.2.1, 2)) (hs : s_istore q σ = some (Sum.inl σ')) (k : Go p l e R s m args below meth c Q D A adK b Ls xs nL hj c0 s0 ads0 σ') : Go p l e R s m args below meth c Q D A adK b Ls xs nL hj c0 s0 ads0 σ := by
  unfold s_istore pnext at hs
  split at hs
  · rename_i pc L x st lay nx h
    cases hs
    refine Go.mk (fun ads H locs cells slots ls stv hads hW hL hN hT => ?_)
    obtain ⟨h0, lv, h1, h2⟩ := hL
    obtain ⟨x', vs2, rfl, hx', hT⟩ := hT.consI
    refine lv_istore hx hb hd h1 hin rfl (fun ls' hl' => ?_)
    obtain ⟨r1, r2⟩ := LRel.store (q := q) h0 h2 hN (pv := Sum.inl x) ⟨x', rfl, hx'⟩ rfl hq hl'
    exact k ads H locs cells slots ls' _ hads hW r1 r2 hT
  · cases hs

theorem g_astore_n (hx : p.tables.exec = Jvm.exec) (hb : c.code = cc) {i : Fin 4} (hi : (i : Nat) = q.2.1) (hin : q.2.1 < nL) (hq : q.2.2.1 = 0 → hj = false) (hd : decode cc σ.1 = .ok (.astore_n i, 1)) (hs : s_astore_n q σ = some (Sum.inl σ')) (k : Go p l e R s m args below meth c Q D A adK b Ls xs nL hj c0 s0 ads0 σ') : Go p l e R s m args below meth c Q D A adK b Ls xs nL hj c0 s0 ads0 σ := by
  unfold s_astore_n pnext at hs
  split at hs
  · rename_i pc L x st lay nx h
    cases hs
    refine Go.mk (fun ads H locs cells slots ls stv hads hW hL hN hT => ?_)
    obtain ⟨h0, lv, h1, h2⟩ := hL
    obtain ⟨v, vs2, rfl, hv, hT2⟩ := hT.cons
    obtain ⟨a, rfl⟩ := VR.ref hv
    refine lv_astore_n hx hb hd hi h1 hin rfl (fun ls' hl' => ?_)
    obtain ⟨r1, r2⟩ := LRel.store (q := q) h0 h2 hN (pv := Sum.inr (Sum.inr x)) hv rfl hq hl'
    exact k ads H locs cells slots ls' _ hads hW r1 r2 hT2
  · cases hs

theorem g_astore (hx : p.tables.exec = Jvm.exec) (hb : c.code = cc) (hin : q.2.1 < nL) (hq : q.2.2.1 = 0 → hj = false) (hd : decode cc σ.1 = .ok (.astore q.2.1, 2)) (hs : s_astore q σ = some (Sum.inl σ')) (k : Go p l e R s m args below meth c Q D A adK b Ls xs nL hj c0 s0 ads0 σ') : Go p l e R s m args below meth c Q D A adK b Ls xs nL hj c0 s0 ads0 σ := by
  unfold s_astore pnext at hs
  split at hs
  · rename_i pc L x st lay nx h
    cases hs
    refine Go.mk (fun ads H locs cells slots ls stv hads hW hL hN hT => ?_)
    obtain ⟨h0, lv, h1, h2⟩ := hL
    obtain ⟨v, vs2, rfl, hv, hT2⟩ := hT.cons
    obtain ⟨a, rfl⟩ := VR.ref hv
    refine lv_astore hx hb hd h1 hin rfl (fun ls' hl' => ?_)
    obtain ⟨r1, r2⟩ := LRel.store (q := q) h0 h2 hN (pv := Sum.inr (Sum.inr x)) hv rfl hq hl'
    exact k ads H locs cells slots ls' _ hads hW r1 r2 hT2
  · cases hs

theorem g_lstore_n (hx : p.tables.exec = Jvm.exec) (hb : c.code = cc) {i : Fin 4} (hi : (i : Nat) = q.2.1) (hin : q.2.1 + 1 < nL) (hq : hj = true) (hd : decode cc σ.1 = .ok (.lstore_n i, 1)) (hs : s_lstore_n q σ = some (Sum.inl σ')) (k : Go p l e R s m args below meth c Q D A adK b Ls xs nL hj c0 s0 ads0 σ') : Go p l e R s m args below meth c Q D A adK b Ls xs nL hj c0 s0 ads0 σ := by
  unfold s_lstore_n pnext at hs
  split at hs
  · rename_i pc L x st lay nx h
    cases hs
    refine Go.mk (fun ads H locs cells slots ls stv hads hW hL hN hT => ?_)
    obtain ⟨h0, lv, h1, h2⟩ := hL
    obtain ⟨x', vs2, rfl, hx', hT⟩ := hT.consJ
    refine lv_lstore_n hx hb hd hi h1 hin rfl (fun ls' hl' => ?_)
    exact k ads H locs cells slots ls' _ hads hW (LRel.storeJ h0 h2 (pv := Sum.inr (Sum.inl x)) ⟨x', rfl, hx'⟩ hl') (fun z => by rw [hq] at z; cases z) hT
  · cases hs

theorem g_lstore (hx : p.tables.exec = Jvm.exec) (hb : c.code = cc) (hin : q.2.1 + 1 < nL) (hq : hj = true) (hd : decode cc σ.1 = .ok (.lstore q.2.1, 2)) (hs : s_lstore q σ = some (Sum.inl σ')) (k : Go p l e R s m args below meth c Q D A adK b Ls xs nL hj c0 s0 ads0 σ') : Go p l e R s m args below meth c Q D A adK b Ls xs nL hj c0 s0 ads0 σ := by
  unfold s_lstore pnext at hs
  split at hs
  · rename_i pc L x st lay nx h
    cases hs
    refine Go.mk (fun ads H locs cells slots ls stv hads hW hL hN hT => ?_)
    obtain ⟨h0, lv, h1, h2⟩ := hL
    obtain ⟨x', vs2, rfl, hx', hT⟩ := hT.consJ
    refine lv_lstore hx hb hd h1 hin rfl (fun ls' hl' => ?_)
    exact k ads H locs cells slots ls' _ hads hW (LRel.storeJ h0 h2 (pv := Sum.inr (Sum.inl x)) ⟨x', rfl, hx'⟩ hl') (fun z => by rw [hq] at z; cases z) hT
  · cases hs

theorem g_iinc (hx : p.tables.exec = Jvm.exec) (hb : c.code = cc) (hin : q.2.1 < nL) (hq : q.2.2.1 = 0 → hj = false) (hd : decode cc σ.1 = .ok (.iinc q.2.1 q.2.2.2.2, 3)) (hs : s_iinc q σ = some (Sum.inl σ')) (k : Go p l e R s m args below meth c Q D A adK b Ls xs nL hj c0 s0 ads0 σ') : Go p l e R s m args below meth c Q D A adK b Ls xs nL hj c0 s0 ads0 σ := by
  obtain ⟨pc, L, st, lay, nx, h⟩ := σ
  simp only [s_iinc, pnext] at hs
  split at hs
  · rename_i x hg
    cases hs
    refine Go.mk (fun ads H locs cells slots ls stv hads hW hL hN hT => ?_)
    obtain ⟨h0, lv, h1, h2⟩ := hL
    have hq' : L[q.2.1]? = some (some (Sum.inl x)) := by
      unfold getL at hg
      cases hc : L[q.2.1]? with
      | none => rw [hc] at hg; cases hg
      | some z => rw [hc] at hg; simp at hg; rw [hg]
    obtain ⟨v, ⟨y, rfl, hy⟩, hm⟩ := h2 _ _ hq'
    obtain ⟨kk, hkk⟩ := List.getElem?_of_mem hm
    refine lv_iinc hx hb hd h1 hkk rfl hin rfl (fun ls' hl' => ?_)
    obtain ⟨r1, r2⟩ := LRel.store (q := q) h0 h2 hN (pv := pI (w32 (x + q.2.2.2.2))) ⟨_, rfl, by rw [Int32.toInt_add, hy, ofI32]; simp [w32]⟩ rfl hq hl'
    exact k ads H locs cells slots ls' _ hads hW r1 r2 hT
  · cases hs

theorem g_iadd (hx : p.tables.exec = Jvm.exec) (hb : c.code = cc) (hd : decode cc σ.1 = .ok (.iadd, 1)) (hs : s_iadd q σ = some (Sum.inl σ')) (k : Go p l e R s m args below meth c Q D A adK b Ls xs nL hj c0 s0 ads0 σ') : Go p l e R s m args below meth c Q D A adK b Ls xs nL hj c0 s0 ads0 σ := by
  unfold s_iadd pnext at hs
  split at hs
  · rename_i pc L y x st lay nx h
    cases hs
    refine Go.mk (fun ads H locs cells slots ls stv hads hW hL hN hT => ?_)
    obtain ⟨y', vs1, rfl, hy, hT⟩ := hT.consI
    obtain ⟨x', vs2, rfl, hx', hT⟩ := hT.consI
    refine lv_iadd hx hb hd ?_
    exact k ads H locs cells slots ls _ hads hW hL hN ⟨⟨_, rfl, by rw [Int32.toInt_add, hx', hy]; rfl⟩, hT⟩
  · cases hs

theorem g_isub (hx : p.tables.exec = Jvm.exec) (hb : c.code = cc) (hd : decode cc σ.1 = .ok (.isub, 1)) (hs : s_isub q σ = some (Sum.inl σ')) (k : Go p l e R s m args below meth c Q D A adK b Ls xs nL hj c0 s0 ads0 σ') : Go p l e R s m args below meth c Q D A adK b Ls xs nL hj c0 s0 ads0 σ := by
  unfold s_isub pnext at hs
  split at hs
  · rename_i pc L y x st lay nx h
    cases hs
    refine Go.mk (fun ads H locs cells slots ls stv hads hW hL hN hT => ?_)
    obtain ⟨y', vs1, rfl, hy, hT⟩ := hT.consI
    obtain ⟨x', vs2, rfl, hx', hT⟩ := hT.consI
    refine lv_isub hx hb hd ?_
    exact k ads H locs cells slots ls _ hads hW hL hN ⟨⟨_, rfl, by rw [Int32.toInt_sub, hx', hy]; rfl⟩, hT⟩
  · cases hs

theorem g_imul (hx : p.tables.exec = Jvm.exec) (hb : c.code = cc) (hd : decode cc σ.1 = .ok (.imul, 1)) (hs : s_imul q σ = some (Sum.inl σ')) (k : Go p l e R s m args below meth c Q D A adK b Ls xs nL hj c0 s0 ads0 σ') : Go p l e R s m args below meth c Q D A adK b Ls xs nL hj c0 s0 ads0 σ := by
  unfold s_imul pnext at hs
  split at hs
  · rename_i pc L y x st lay nx h
    cases hs
    refine Go.mk (fun ads H locs cells slots ls stv hads hW hL hN hT => ?_)
    obtain ⟨y', vs1, rfl, hy, hT⟩ := hT.consI
    obtain ⟨x', vs2, rfl, hx', hT⟩ := hT.consI
    refine lv_imul hx hb hd ?_
    exact k ads H locs cells slots ls _ hads hW hL hN ⟨⟨_, rfl, by rw [Int32.toInt_mul, hx', hy]; rfl⟩, hT⟩
  · cases hs

theorem g_iand (hx : p.tables.exec = Jvm.exec) (hb : c.code = cc) (hd : decode cc σ.1 = .ok (.iand, 1)) (hs : s_iand q σ = some (Sum.inl σ')) (k : Go p l e R s m args below meth c Q D A adK b Ls xs nL hj c0 s0 ads0 σ') : Go p l e R s m args below meth c Q D A adK b Ls xs nL hj c0 s0 ads0 σ := by
  unfold s_iand pnext at hs
  split at hs
  · rename_i pc L y x st lay nx h
    cases hs
    refine Go.mk (fun ads H locs cells slots ls stv hads hW hL hN hT => ?_)
    obtain ⟨y', vs1, rfl, hy, hT⟩ := hT.consI
    obtain ⟨x', vs2, rfl, hx', hT⟩ := hT.consI
    refine lv_iand hx hb hd ?_
    exact k ads H locs cells slots ls _ hads hW hL hN ⟨⟨_, rfl, by rw [← hx', ← hy]; simp [pand]⟩, hT⟩
  · cases hs

theorem g_ior (hx : p.tables.exec = Jvm.exec) (hb : c.code = cc) (hd : decode cc σ.1 = .ok (.ior, 1)) (hs : s_ior q σ = some (Sum.inl σ')) (k : Go p l e R s m args below meth c Q D A adK b Ls xs nL hj c0 s0 ads0 σ') : Go p l e R s m args below meth c Q D A adK b Ls xs nL hj c0 s0 ads0 σ := by
  unfold s_ior pnext at hs
  split at hs
  · rename_i pc L y x st lay nx h
    cases hs
    refine Go.mk (fun ads H locs cells slots ls stv hads hW hL hN hT => ?_)
    obtain ⟨y', vs1, rfl, hy, hT⟩ := hT.consI
    obtain ⟨x', vs2, rfl, hx', hT⟩ := hT.consI
    refine lv_ior hx hb hd ?_
    exact k ads H locs cells slots ls _ hads hW hL hN ⟨⟨_, rfl, by rw [← hx', ← hy]; simp [por]⟩, hT⟩
  · cases hs

theorem g_ishl (hx : p.tables.exec = Jvm.exec) (hb : c.code = cc) (hd : decode cc σ.1 = .ok (.ishl, 1)) (hs : s_ishl q σ = some (Sum.inl σ')) (k : Go p l e R s m args below meth c Q D A adK b Ls xs nL hj c0 s0 ads0 σ') : Go p l e R s m args below meth c Q D A adK b Ls xs nL hj c0 s0 ads0 σ := by
  unfold s_ishl pnext at hs
  split at hs
  · rename_i pc L y x st lay nx h
    cases hs
    refine Go.mk (fun ads H locs cells slots ls stv hads hW hL hN hT => ?_)
    obtain ⟨y', vs1, rfl, hy, hT⟩ := hT.consI
    obtain ⟨x', vs2, rfl, hx', hT⟩ := hT.consI
    refine lv_ishl hx hb hd ?_
    exact k ads H locs cells slots ls _ hads hW hL hN ⟨⟨_, rfl, by rw [← hx', ← hy]; simp [pshl]⟩, hT⟩
  · cases hs

theorem g_ishr (hx : p.tables.exec = Jvm.exec) (hb : c.code = cc) (hd : decode cc σ.1 = .ok (.ishr, 1)) (hs : s_ishr q σ = some (Sum.inl σ')) (k : Go p l e R s m args below meth c Q D A adK b Ls xs nL hj c0 s0 ads0 σ') : Go p l e R s m args below meth c Q D A adK b Ls xs nL hj c0 s0 ads0 σ := by
  unfold s_ishr pnext at hs
  split at hs
  · rename_i pc L y x st lay nx h
    cases hs
    refine Go.mk (fun ads H locs cells slots ls stv hads hW hL hN hT => ?_)
    obtain ⟨y', vs1, rfl, hy, hT⟩ := hT.consI
    obtain ⟨x', vs2, rfl, hx', hT⟩ := hT.consI
    refine lv_ishr hx hb hd ?_
    exact k ads H locs cells slots ls _ hads hW hL hN ⟨⟨_, rfl, by rw [← hx', ← hy]; simp [pshr]⟩, hT⟩
  · cases hs

theorem g_iushr (hx : p.tables.exec = Jvm.exec) (hb : c.code = cc) (hd : decode cc σ.1 = .ok (.iushr, 1)) (hs : s_iushr q σ = some (Sum.inl σ')) (k : Go p l e R s m args below meth c Q D A adK b Ls xs nL hj c0 s0 ads0 σ') : Go p l e R s m args below meth c Q D A adK b Ls xs nL hj c0 s0 ads0 σ := by
  unfold s_iushr pnext at hs
  split at hs
  · rename_i pc L y x st lay nx h
    cases hs
    refine Go.mk (fun ads H locs cells slots ls stv hads hW hL hN hT => ?_)
    obtain ⟨y', vs1, rfl, hy, hT⟩ := hT.consI
    obtain ⟨x', vs2, rfl, hx', hT⟩ := hT.consI
    refine lv_iushr hx hb hd rfl ?_
    exact k ads H locs cells slots ls _ hads hW hL hN ⟨⟨_, rfl, by rw [← hx', ← hy]; simp [pushr]⟩, hT⟩
  · cases hs

theorem g_idiv (hx : p.tables.exec = Jvm.exec) (hb : c.code = cc) (hd : decode cc σ.1 = .ok (.idiv, 1)) (hs : s_idiv q σ = some (Sum.inl σ')) (k : Go p l e R s m args below meth c Q D A adK b Ls xs nL hj c0 s0 ads0 σ') : Go p l e R s m args below meth c Q D A adK b Ls xs nL hj c0 s0 ads0 σ := by
  unfold s_idiv pnext at hs
  split at hs
  · rename_i pc L y x st lay nx h
    split at hs
    · rename_i hcond
      cases hs
      refine Go.mk (fun ads H locs cells slots ls stv hads hW hL hN hT => ?_)
      obtain ⟨y', vs1, rfl, hy, hT⟩ := hT.consI
      obtain ⟨x', vs2, rfl, hx', hT⟩ := hT.consI
      refine lv_idiv hx hb hd (fun hz => hcond (by rw [← hy, hz]; rfl)) ?_
      exact k ads H locs cells slots ls _ hads hW hL hN ⟨⟨_, rfl, by rw [← hx', ← hy]; simp [pdiv]⟩, hT⟩
    · cases hs
  · cases hs

theorem g_irem (hx : p.tables.exec = Jvm.exec) (hb : c.code = cc) (hd : decode cc σ.1 = .ok (.irem, 1)) (hs : s_irem q σ = some (Sum.inl σ')) (k : Go p l e R s m args below meth c Q D A adK b Ls xs nL hj c0 s0 ads0 σ') : Go p l e R s m args below meth c Q D A adK b Ls xs nL hj c0 s0 ads0 σ := by
  unfold s_irem pnext at hs
  split at hs
  · rename_i pc L y x st lay nx h
    split at hs
    · rename_i hcond
      cases hs
      refine Go.mk (fun ads H locs cells slots ls stv hads hW hL hN hT => ?_)
      obtain ⟨y', vs1, rfl, hy, hT⟩ := hT.consI
      obtain ⟨x', vs2, rfl, hx', hT⟩ := hT.consI
      refine lv_irem hx hb hd (fun hz => hcond (by rw [← hy, hz]; rfl)) ?_
      exact k ads H locs cells slots ls _ hads hW hL hN ⟨⟨_, rfl, by rw [← hx', ← hy]; simp [prem]⟩, hT⟩
    · cases hs
  · cases hs

theorem g_ladd (hx : p.tables.exec = Jvm.exec) (hb : c.code = cc) (hd : decode cc σ.1 = .ok (.ladd, 1)) (hs : s_ladd q σ = some (Sum.inl σ')) (k : Go p l e R s m args below meth c Q D A adK b Ls xs nL hj c0 s0 ads0 σ') : Go p l e R s m args below meth c Q D A adK b Ls xs nL hj c0 s0 ads0 σ := by
  unfold s_ladd pnext at hs
  split at hs
  · rename_i pc L y x st lay nx h
    cases hs
    refine Go.mk (fun ads H locs cells slots ls stv hads hW hL hN hT => ?_)
    obtain ⟨y', vs1, rfl, hy, hT⟩ := hT.consJ
    obtain ⟨x', vs2, rfl, hx', hT⟩ := hT.consJ
    refine lv_ladd hx hb hd ?_
    exact k ads H locs cells slots ls _ hads hW hL hN ⟨⟨_, rfl, by rw [Int64.toInt_add, hx', hy]; rfl⟩, hT⟩
  · cases hs

theorem g_lsub (hx : p.tables.exec = Jvm.exec) (hb : c.code = cc) (hd : decode cc σ.1 = .ok (.lsub, 1)) (hs : s_lsub q σ = some (Sum.inl σ')) (k : Go p l e R s m args below meth c Q D A adK b Ls xs nL hj c0 s0 ads0 σ') : Go p l e R s m args below meth c Q D A adK b Ls xs nL hj c0 s0 ads0 σ := by
  unfold s_lsub pnext at hs
  split at hs
  · rename_i pc L y x st lay nx h
    cases hs
    refine Go.mk (fun ads H locs cells slots ls stv hads hW hL hN hT => ?_)
    obtain ⟨y', vs1, rfl, hy, hT⟩ := hT.consJ
    obtain ⟨x', vs2, rfl, hx', hT⟩ := hT.consJ
    refine lv_lsub hx hb hd ?_
    exact k ads H locs cells slots ls _ hads hW hL hN ⟨⟨_, rfl, by rw [Int64.toInt_sub, hx', hy]; rfl⟩, hT⟩
  · cases hs

theorem g_lmul (hx : p.tables.exec = Jvm.exec) (hb : c.code = cc) (hd : decode cc σ.1 = .ok (.lmul, 1)) (hs : s_lmul q σ = some (Sum.inl σ')) (k : Go p l e R s m args below meth c Q D A adK b Ls xs nL hj c0 s0 ads0 σ') : Go p l e R s m args below meth c Q D A adK b Ls xs nL hj c0 s0 ads0 σ := by
  unfold s_lmul pnext at hs
  split at hs
  · rename_i pc L y x st lay nx h
    cases hs
    refine Go.mk (fun ads H locs cells slots ls stv hads hW hL hN hT => ?_)
    obtain ⟨y', vs1, rfl, hy, hT⟩ := hT.consJ
    obtain ⟨x', vs2, rfl, hx', hT⟩ := hT.consJ
    refine lv_lmul hx hb hd ?_
    exact k ads H locs cells slots ls _ hads hW hL hN ⟨⟨_, rfl, by rw [Int64.toInt_mul, hx', hy]; rfl⟩, hT⟩
  · cases hs

theorem g_lor (hx : p.tables.exec = Jvm.exec) (hb : c.code = cc) (hd : decode cc σ.1 = .ok (.lor, 1)) (hs : s_lor q σ = some (Sum.inl σ')) (k : Go p l e R s m args below meth c Q D A adK b Ls xs nL hj c0 s0 ads0 σ') : Go p l e R s m args below meth c Q D A adK b Ls xs nL hj c0 s0 ads0 σ := by
  unfold s_lor pnext at hs
  split at hs
  · rename_i pc L y x st lay nx h
    cases hs
    refine Go.mk (fun ads H locs cells slots ls stv hads hW hL hN hT => ?_)
    obtain ⟨y', vs1, rfl, hy, hT⟩ := hT.consJ
    obtain ⟨x', vs2, rfl, hx', hT⟩ := hT.consJ
    refine lv_lor hx hb hd ?_
    exact k ads H locs cells slots ls _ hads hW hL hN ⟨⟨_, rfl, by rw [← hx', ← hy]; simp [plor]⟩, hT⟩
  · cases hs

theorem g_lshl (hx : p.tables.exec = Jvm.exec) (hb : c.code = cc) (hd : decode cc σ.1 = .ok (.lshl, 1)) (hs : s_lshl q σ = some (Sum.inl σ')) (k : Go p l e R s m args below meth c Q D A adK b Ls xs nL hj c0 s0 ads0 σ') : Go p l e R s m args below meth c Q D A adK b Ls xs nL hj c0 s0 ads0 σ := by
  unfold s_lshl pnext at hs
  split at hs
  · rename_i pc L y x st lay nx h
    cases hs
    refine Go.mk (fun ads H locs cells slots ls stv hads hW hL hN hT => ?_)
    obtain ⟨y', vs1, rfl, hy, hT⟩ := hT.consI
    obtain ⟨x', vs2, rfl, hx', hT⟩ := hT.consJ
    refine lv_lshl hx hb hd rfl ?_
    exact k ads H locs cells slots ls _ hads hW hL hN ⟨⟨_, rfl, by rw [← hx', ← hy]; simp [plshl]⟩, hT⟩
  · cases hs

theorem lg_cmp_toInt (x y : Int64) : (lg_cmp x y).toInt = plcmp x.toInt y.toInt := by
  unfold lg_cmp plcmp
  by_cases h : y < x
  · rw [if_pos h, if_pos (Int64.lt_iff_toInt_lt.mp h)]; rfl
  · rw [if_neg h, if_neg (fun z => h (Int64.lt_iff_toInt_lt.mpr z))]
    by_cases h2 : x = y
    · rw [if_pos h2, if_pos (by rw [h2])]; rfl
    · rw [if_neg h2, if_neg (fun z => h2 (Int64.toInt_inj.mp z))]; rfl

theorem g_lcmp (hx : p.tables.exec = Jvm.exec) (hb : c.code = cc) (hd : decode cc σ.1 = .ok (.lcmp, 1)) (hs : s_lcmp q σ = some (Sum.inl σ')) (k : Go p l e R s m args below meth c Q D A adK b Ls xs nL hj c0 s0 ads0 σ') : Go p l e R s m args below meth c Q D A adK b Ls xs nL hj c0 s0 ads0 σ := by
  unfold s_lcmp pnext at hs
  split at hs
  · rename_i pc L y x st lay nx h
    cases hs
    refine Go.mk (fun ads H locs cells slots ls stv hads hW hL hN hT => ?_)
    obtain ⟨y', vs1, rfl, hy, hT⟩ := hT.consJ
    obtain ⟨x', vs2, rfl, hx', hT⟩ := hT.consJ
    refine W.lcmp hx hb hd ?_
    exact k ads H locs cells slots ls _ hads hW hL hN ⟨⟨_, rfl, by rw [lg_cmp_toInt, hx', hy]⟩, hT⟩
  · cases hs

theorem g_i2l (hx : p.tables.exec = Jvm.exec) (hb : c.code = cc) (hd : decode cc σ.1 = .ok (.i2l, 1)) (hs : s_i2l q σ = some (Sum.inl σ')) (k : Go p l e R s m args below meth c Q D A adK b Ls xs nL hj c0 s0 ads0 σ') : Go p l e R s m args below meth c Q D A adK b Ls xs nL hj c0 s0 ads0 σ := by
  unfold s_i2l pnext at hs
  split at hs
  · rename_i pc L x st lay nx h
    cases hs
    refine Go.mk (fun ads H locs cells slots ls stv hads hW hL hN hT => ?_)
    obtain ⟨x', vs2, rfl, hx', hT⟩ := hT.consI
    refine lv_i2l hx hb hd rfl ?_
    exact k ads H locs cells slots ls _ hads hW hL hN ⟨⟨_, rfl, by rw [Int32.toInt_toInt64, hx']⟩, hT⟩
  · cases hs

theorem g_l2i (hx : p.tables.exec = Jvm.exec) (hb : c.code = cc) (hd : decode cc σ.1 = .ok (.l2i, 1)) (hs : s_l2i q σ = some (Sum.inl σ')) (k : Go p l e R s m args below meth c Q D A adK b Ls xs nL hj c0 s0 ads0 σ') : Go p l e R s m args below meth c Q D A adK b Ls xs nL hj c0 s0 ads0 σ := by
  unfold s_l2i pnext at hs
  split at hs
  · rename_i pc L x st lay nx h
    cases hs
    refine Go.mk (fun ads H locs cells slots ls stv hads hW hL hN hT => ?_)
    obtain ⟨x', vs2, rfl, hx', hT⟩ := hT.consJ
    refine lv_l2i hx hb hd rfl ?_
    exact k ads H locs cells slots ls _ hads hW hL hN ⟨⟨_, rfl, by rw [Int64.toInt_toInt32, hx']; rfl⟩, hT⟩
  · cases hs

theorem g_i2b (hx : p.tables.exec = Jvm.exec) (hb : c.code = cc) (hd : decode cc σ.1 = .ok (.i2b, 1)) (hs : s_i2b q σ = some (Sum.inl σ')) (k : Go p l e R s m args below meth c Q D A adK b Ls xs nL hj c0 s0 ads0 σ') : Go p l e R s m args below meth c Q D A adK b Ls xs nL hj c0 s0 ads0 σ := by
  unfold s_i2b pnext at hs
  split at hs
  · rename_i pc L x st lay nx h
    cases hs
    refine Go.mk (fun ads H locs cells slots ls stv hads hW hL hN hT => ?_)
    obtain ⟨x', vs2, rfl, hx', hT⟩ := hT.consI
    refine lv_i2b hx hb hd rfl ?_
    exact k ads H locs cells slots ls _ hads hW hL hN ⟨⟨_, rfl, by rw [Int8.toInt_toInt32, Int32.toInt_toInt8, hx']; rfl⟩, hT⟩
  · cases hs

theorem g_dup (hx : p.tables.exec = Jvm.exec) (hb : c.code = cc) (hd : decode cc σ.1 = .ok (.dup, 1)) (hs : s_dup q σ = some (Sum.inl σ')) (k : Go p l e R s m args below meth c Q D A adK b Ls xs nL hj c0 s0 ads0 σ') : Go p l e R s m args below meth c Q D A adK b Ls xs nL hj c0 s0 ads0 σ := by
  unfold s_dup pnext at hs
  split at hs
  · rename_i pc L p9 st lay nx h
    split at hs
    · rename_i hcond
      cases hs
      refine Go.mk (fun ads H locs cells slots ls stv hads hW hL hN hT => ?_)
      obtain ⟨v, vs2, rfl, hv, hT⟩ := hT.cons
      refine lv_dup hx hb hd (hv.cat.trans hcond) ?_
      exact k ads H locs cells slots ls _ hads hW hL hN ⟨hv, hv, hT⟩
    · cases hs
  · cases hs

theorem g_dup2 (hx : p.tables.exec = Jvm.exec) (hb : c.code = cc) (hd : decode cc σ.1 = .ok (.dup2, 1)) (hs : s_dup2 q σ = some (Sum.inl σ')) (k : Go p l e R s m args below meth c Q D A adK b Ls xs nL hj c0 s0 ads0 σ') : Go p l e R s m args below meth c Q D A adK b Ls xs nL hj c0 s0 ads0 σ := by
  unfold s_dup2 pnext at hs
  split at hs
  · rename_i pc L p9 p8 st lay nx h
    split at hs
    · rename_i hcond
      cases hs
      refine Go.mk (fun ads H locs cells slots ls stv hads hW hL hN hT => ?_)
      obtain ⟨v, vs2, rfl, hv, hT⟩ := hT.cons
      obtain ⟨v8, vs3, rfl, hv8, hT⟩ := hT.cons
      refine lv_dup2_11 hx hb hd (hv.cat.trans hcond.1) (hv8.cat.trans hcond.2) ?_
      exact k ads H locs cells slots ls _ hads hW hL hN ⟨hv, hv8, hv, hv8, hT⟩
    · cases hs
  · cases hs

theorem g_pop (hx : p.tables.exec = Jvm.exec) (hb : c.code = cc) (hd : decode cc σ.1 = .ok (.pop, 1)) (hs : s_pop q σ = some (Sum.inl σ')) (k : Go p l e R s m args below meth c Q D A adK b Ls xs nL hj c0 s0 ads0 σ') : Go p l e R s m args below meth c Q D A adK b Ls xs nL hj c0 s0 ads0 σ := by
  unfold s_pop pnext at hs
  split at hs
  · rename_i pc L p9 st lay nx h
    split at hs
    · rename_i hcond
      cases hs
      refine Go.mk (fun ads H locs cells slots ls stv hads hW hL hN hT => ?_)
      obtain ⟨v, vs2, rfl, hv, hT⟩ := hT.cons
      refine lv_pop hx hb hd (hv.cat.trans hcond) ?_
      exact k ads H locs cells slots ls _ hads hW hL hN hT
    · cases hs
  · cases hs

theorem g_if_eq (hx : p.tables.exec = Jvm.exec) (hb : c.code = cc) {off : Int} (ht : (σ.1 : Int) + off = (q.2.1 : Int)) (hd : decode cc σ.1 = .ok (.ifCond .eq off, 3)) (hs : s_if_eq q σ = some (Sum.inl σ')) (k : Go p l e R s m args below meth c Q D A adK b Ls xs nL hj c0 s0 ads0 σ') : Go p l e R s m args below meth c Q D A adK b Ls xs nL hj c0 s0 ads0 σ := by
  unfold s_if_eq pnext at hs
  split at hs
  · rename_i pc L x st lay nx h
    refine Go.mk (fun ads H locs cells slots ls stv hads hW hL hN hT => ?_)
    obtain ⟨x', vs2, rfl, hx', hT⟩ := hT.consI
    have hc : x' = 0 ↔ x = 0 := by rw [← hx']; exact ⟨fun z => by rw [z]; rfl, fun z => Int32.toInt_inj.mp (by rw [z]; rfl)⟩
    refine lv_if_eq (tgt := q.2.1) hx hb hd ht (fun h1 => ?_) (fun h1 => ?_)
    · rw [if_pos (hc.mp h1)] at hs; cases hs
      exact k ads H locs cells slots ls _ hads hW hL hN hT
    · rw [if_neg (fun z => h1 (hc.mpr z))] at hs; cases hs
      exact k ads H locs cells slots ls _ hads hW hL hN hT
  · cases hs

theorem g_if_ne (hx : p.tables.exec = Jvm.exec) (hb : c.code = cc) {off : Int} (ht : (σ.1 : Int) + off = (q.2.1 : Int)) (hd : decode cc σ.1 = .ok (.ifCond .ne off, 3)) (hs : s_if_ne q σ = some (Sum.inl σ')) (k : Go p l e R s m args below meth c Q D A adK b Ls xs nL hj c0 s0 ads0 σ') : Go p l e R s m args below meth c Q D A adK b Ls xs nL hj c0 s0 ads0 σ := by
  unfold s_if_ne pnext at hs
  split at hs
  · rename_i pc L x st lay nx h
    refine Go.mk (fun ads H locs cells slots ls stv hads hW hL hN hT => ?_)
    obtain ⟨x', vs2, rfl, hx', hT⟩ := hT.consI
    have hc0 : x' = 0 ↔ x = 0 := by rw [← hx']; exact ⟨fun z => by rw [z]; rfl, fun z => Int32.toInt_inj.mp (by rw [z]; rfl)⟩
    have hc : ¬ x' = 0 ↔ x ≠ 0 := not_congr hc0
    refine lv_if_ne (tgt := q.2.1) hx hb hd ht (fun h1 => ?_) (fun h1 => ?_)
    · rw [if_pos (hc.mp h1)] at hs; cases hs
      exact k ads H locs cells slots ls _ hads hW hL hN hT
    · rw [if_neg (fun z => hc.mpr z h1)] at hs; cases hs
      exact k ads H locs cells slots ls _ hads hW hL hN hT
  · cases hs

theorem g_if_lt (hx : p.tables.exec = Jvm.exec) (hb : c.code = cc) {off : Int} (ht : (σ.1 : Int) + off = (q.2.1 : Int)) (hd : decode cc σ.1 = .ok (.ifCond .lt off, 3)) (hs : s_if_lt q σ = some (Sum.inl σ')) (k : Go p l e R s m args below meth c Q D A adK b Ls xs nL hj c0 s0 ads0 σ') : Go p l e R s m args below meth c Q D A adK b Ls xs nL hj c0 s0 ads0 σ := by
  unfold s_if_lt pnext at hs
  split at hs
  · rename_i pc L x st lay nx h
    refine Go.mk (fun ads H locs cells slots ls stv hads hW hL hN hT => ?_)
    obtain ⟨x', vs2, rfl, hx', hT⟩ := hT.consI
    have hc : x' < 0 ↔ x < 0 := by rw [← hx', Int32.lt_iff_toInt_lt]; rfl
    refine lv_if_lt (tgt := q.2.1) hx hb hd ht (fun h1 => ?_) (fun h1 => ?_)
    · rw [if_pos (hc.mp h1)] at hs; cases hs
      exact k ads H locs cells slots ls _ hads hW hL hN hT
    · rw [if_neg (fun z => h1 (hc.mpr z))] at hs; cases hs
      exact k ads H locs cells slots ls _ hads hW hL hN hT
  · cases hs

theorem g_if_ge (hx : p.tables.exec = Jvm.exec) (hb : c.code = cc) {off : Int} (ht : (σ.1 : Int) + off = (q.2.1 : Int)) (hd : decode cc σ.1 = .ok (.ifCond .ge off, 3)) (hs : s_if_ge q σ = some (Sum.inl σ')) (k : Go p l e R s m args below meth c Q D A adK b Ls xs nL hj c0 s0 ads0 σ') : Go p l e R s m args below meth c Q D A adK b Ls xs nL hj c0 s0 ads0 σ := by
  unfold s_if_ge pnext at hs
  split at hs
  · rename_i pc L x st lay nx h
    refine Go.mk (fun ads H locs cells slots ls stv hads hW hL hN hT => ?_)
    obtain ⟨x', vs2, rfl, hx', hT⟩ := hT.consI
    have hc : 0 ≤ x' ↔ 0 ≤ x := by rw [← hx', Int32.le_iff_toInt_le]; rfl
    refine lv_if_ge (tgt := q.2.1) hx hb hd ht (fun h1 => ?_) (fun h1 => ?_)
    · rw [if_pos (hc.mp h1)] at hs; cases hs
      exact k ads H locs cells slots ls _ hads hW hL hN hT
    · rw [if_neg (fun z => h1 (hc.mpr z))] at hs; cases hs
      exact k ads H locs cells slots ls _ hads hW hL hN hT
  · cases hs

theorem g_if_gt (hx : p.tables.exec = Jvm.exec) (hb : c.code = cc) {off : Int} (ht : (σ.1 : Int) + off = (q.2.1 : Int)) (hd : decode cc σ.1 = .ok (.ifCond .gt off, 3)) (hs : s_if_gt q σ = some (Sum.inl σ')) (k : Go p l e R s m args below meth c Q D A adK b Ls xs nL hj c0 s0 ads0 σ') : Go p l e R s m args below meth c Q D A adK b Ls xs nL hj c0 s0 ads0 σ := by
  unfold s_if_gt pnext at hs
  split at hs
  · rename_i pc L x st lay nx h
    refine Go.mk (fun ads H locs cells slots ls stv hads hW hL hN hT => ?_)
    obtain ⟨x', vs2, rfl, hx', hT⟩ := hT.consI
    have hc : 0 < x' ↔ 0 < x := by rw [← hx', Int32.lt_iff_toInt_lt]; rfl
    refine lv_if_gt (tgt := q.2.1) hx hb hd ht (fun h1 => ?_) (fun h1 => ?_)
    · rw [if_pos (hc.mp h1)] at hs; cases hs
      exact k ads H locs cells slots ls _ hads hW hL hN hT
    · rw [if_neg (fun z => h1 (hc.mpr z))] at hs; cases hs
      exact k ads H locs cells slots ls _ hads hW hL hN hT
  · cases hs

theorem g_if_le (hx : p.tables.exec = Jvm.exec) (hb : c.code = cc) {off : Int} (ht : (σ.1 : Int) + off = (q.2.1 : Int)) (hd : decode cc σ.1 = .ok (.ifCond .le off, 3)) (hs : s_if_le q σ = some (Sum.inl σ')) (k : Go p l e R s m args below meth c Q D A adK b Ls xs nL hj c0 s0 ads0 σ') : Go p l e R s m args below meth c Q D A adK b Ls xs nL hj c0 s0 ads0 σ := by
  unfold s_if_le pnext at hs
  split at hs
  · rename_i pc L x st lay nx h
    refine Go.mk (fun ads H locs cells slots ls stv hads hW hL hN hT => ?_)
    obtain ⟨x', vs2, rfl, hx', hT⟩ := hT.consI
    have hc : x' ≤ 0 ↔ x ≤ 0 := by rw [← hx', Int32.le_iff_toInt_le]; rfl
    refine lv_if_le (tgt := q.2.1) hx hb hd ht (fun h1 => ?_) (fun h1 => ?_)
    · rw [if_pos (hc.mp h1)] at hs; cases hs
      exact k ads H locs cells slots ls _ hads hW hL hN hT
    · rw [if_neg (fun z => h1 (hc.mpr z))] at hs; cases hs
      exact k ads H locs cells slots ls _ hads hW hL hN hT
  · cases hs

theorem g_icmp_eq (hx : p.tables.exec = Jvm.exec) (hb : c.code = cc) {off : Int} (ht : (σ.1 : Int) + off = (q.2.1 : Int)) (hd : decode cc σ.1 = .ok (.if_icmp .eq off, 3)) (hs : s_icmp_eq q σ = some (Sum.inl σ')) (k : Go p l e R s m args below meth c Q D A adK b Ls xs nL hj c0 s0 ads0 σ') : Go p l e R s m args below meth c Q D A adK b Ls xs nL hj c0 s0 ads0 σ := by
  unfold s_icmp_eq pnext at hs
  split at hs
  · rename_i pc L y x st lay nx h
    refine Go.mk (fun ads H locs cells slots ls stv hads hW hL hN hT => ?_)
    obtain ⟨y', vs1, rfl, hy, hT⟩ := hT.consI
    obtain ⟨x', vs2, rfl, hx', hT⟩ := hT.consI
    have hc : x' = y' ↔ x = y := by rw [← hx', ← hy]; exact ⟨fun z => by rw [z], fun z => Int32.toInt_inj.mp z⟩
    refine lv_icmp_eq (tgt := q.2.1) hx hb hd ht (fun h1 => ?_) (fun h1 => ?_)
    · rw [if_pos (hc.mp h1)] at hs; cases hs
      exact k ads H locs cells slots ls _ hads hW hL hN hT
    · rw [if_neg (fun z => h1 (hc.mpr z))] at hs; cases hs
      exact k ads H locs cells slots ls _ hads hW hL hN hT
  · cases hs

theorem g_icmp_ne (hx : p.tables.exec = Jvm.exec) (hb : c.code = cc) {off : Int} (ht : (σ.1 : Int) + off = (q.2.1 : Int)) (hd : decode cc σ.1 = .ok (.if_icmp .ne off, 3)) (hs : s_icmp_ne q σ = some (Sum.inl σ')) (k : Go p l e R s m args below meth c Q D A adK b Ls xs nL hj c0 s0 ads0 σ') : Go p l e R s m args below meth c Q D A adK b Ls xs nL hj c0 s0 ads0 σ := by
  unfold s_icmp_ne pnext at hs
  split at hs
  · rename_i pc L y x st lay nx h
    refine Go.mk (fun ads H locs cells slots ls stv hads hW hL hN hT => ?_)
    obtain ⟨y', vs1, rfl, hy, hT⟩ := hT.consI
    obtain ⟨x', vs2, rfl, hx', hT⟩ := hT.consI
    have hc0 : x' = y' ↔ x = y := by rw [← hx', ← hy]; exact ⟨fun z => by rw [z], fun z => Int32.toInt_inj.mp z⟩
    have hc : ¬ x' = y' ↔ x ≠ y := not_congr hc0
    refine lv_icmp_ne (tgt := q.2.1) hx hb hd ht (fun h1 => ?_) (fun h1 => ?_)
    · rw [if_pos (hc.mp h1)] at hs; cases hs
      exact k ads H locs cells slots ls _ hads hW hL hN hT
    · rw [if_neg (fun z => hc.mpr z h1)] at hs; cases hs
      exact k ads H locs cells slots ls _ hads hW hL hN hT
  · cases hs

theorem g_icmp_lt (hx : p.tables.exec = Jvm.exec) (hb : c.code = cc) {off : Int} (ht : (σ.1 : Int) + off = (q.2.1 : Int)) (hd : decode cc σ.1 = .ok (.if_icmp .lt off, 3)) (hs : s_icmp_lt q σ = some (Sum.inl σ')) (k : Go p l e R s m args below meth c Q D A adK b Ls xs nL hj c0 s0 ads0 σ') : Go p l e R s m args below meth c Q D A adK b Ls xs nL hj c0 s0 ads0 σ := by
  unfold s_icmp_lt pnext at hs
  split at hs
  · rename_i pc L y x st lay nx h
    refine Go.mk (fun ads H locs cells slots ls stv hads hW hL hN hT => ?_)
    obtain ⟨y', vs1, rfl, hy, hT⟩ := hT.consI
    obtain ⟨x', vs2, rfl, hx', hT⟩ := hT.consI
    have hc : x' < y' ↔ x < y := by rw [← hx', ← hy, Int32.lt_iff_toInt_lt]
    refine lv_icmp_lt (tgt := q.2.1) hx hb hd ht (fun h1 => ?_) (fun h1 => ?_)
    · rw [if_pos (hc.mp h1)] at hs; cases hs
      exact k ads H locs cells slots ls _ hads hW hL hN hT
    · rw [if_neg (fun z => h1 (hc.mpr z))] at hs; cases hs
      exact k ads H locs cells slots ls _ hads hW hL hN hT
  · cases hs

theorem g_icmp_ge (hx : p.tables.exec = Jvm.exec) (hb : c.code = cc) {off : Int} (ht : (σ.1 : Int) + off = (q.2.1 : Int)) (hd : decode cc σ.1 = .ok (.if_icmp .ge off, 3)) (hs : s_icmp_ge q σ = some (Sum.inl σ')) (k : Go p l e R s m args below meth c Q D A adK b Ls xs nL hj c0 s0 ads0 σ') : Go p l e R s m args below meth c Q D A adK b Ls xs nL hj c0 s0 ads0 σ := by
  unfold s_icmp_ge pnext at hs
  split at hs
  · rename_i pc L y x st lay nx h
    refine Go.mk (fun ads H locs cells slots ls stv hads hW hL hN hT => ?_)
    obtain ⟨y', vs1, rfl, hy, hT⟩ := hT.consI
    obtain ⟨x', vs2, rfl, hx', hT⟩ := hT.consI
    have hc : y' ≤ x' ↔ y ≤ x := by rw [← hx', ← hy, Int32.le_iff_toInt_le]
    refine lv_icmp_ge (tgt := q.2.1) hx hb hd ht (fun h1 => ?_) (fun h1 => ?_)
    · rw [if_pos (hc.mp h1)] at hs; cases hs
      exact k ads H locs cells slots ls _ hads hW hL hN hT
    · rw [if_neg (fun z => h1 (hc.mpr z))] at hs; cases hs
      exact k ads H locs cells slots ls _ hads hW hL hN hT
  · cases hs

theorem g_icmp_gt (hx : p.tables.exec = Jvm.exec) (hb : c.code = cc) {off : Int} (ht : (σ.1 : Int) + off = (q.2.1 : Int)) (hd : decode cc σ.1 = .ok (.if_icmp .gt off, 3)) (hs : s_icmp_gt q σ = some (Sum.inl σ')) (k : Go p l e R s m args below meth c Q D A adK b Ls xs nL hj c0 s0 ads0 σ') : Go p l e R s m args below meth c Q D A adK b Ls xs nL hj c0 s0 ads0 σ := by
  unfold s_icmp_gt pnext at hs
  split at hs
  · rename_i pc L y x st lay nx h
    refine Go.mk (fun ads H locs cells slots ls stv hads hW hL hN hT => ?_)
    obtain ⟨y', vs1, rfl, hy, hT⟩ := hT.consI
    obtain ⟨x', vs2, rfl, hx', hT⟩ := hT.consI
    have hc : y' < x' ↔ y < x := by rw [← hx', ← hy, Int32.lt_iff_toInt_lt]
    refine lv_icmp_gt (tgt := q.2.1) hx hb hd ht (fun h1 => ?_) (fun h1 => ?_)
    · rw [if_pos (hc.mp h1)] at hs; cases hs
      exact k ads H locs cells slots ls _ hads hW hL hN hT
    · rw [if_neg (fun z => h1 (hc.mpr z))] at hs; cases hs
      exact k ads H locs cells slots ls _ hads hW hL hN hT
  · cases hs

theorem g_icmp_le (hx : p.tables.exec = Jvm.exec) (hb : c.code = cc) {off : Int} (ht : (σ.1 : Int) + off = (q.2.1 : Int)) (hd : decode cc σ.1 = .ok (.if_icmp .le off, 3)) (hs : s_icmp_le q σ = some (Sum.inl σ')) (k : Go p l e R s m args below meth c Q D A adK b Ls xs nL hj c0 s0 ads0 σ') : Go p l e R s m args below meth c Q D A adK b Ls xs nL hj c0 s0 ads0 σ := by
  unfold s_icmp_le pnext at hs
  split at hs
  · rename_i pc L y x st lay nx h
    refine Go.mk (fun ads H locs cells slots ls stv hads hW hL hN hT => ?_)
    obtain ⟨y', vs1, rfl, hy, hT⟩ := hT.consI
    obtain ⟨x', vs2, rfl, hx', hT⟩ := hT.consI
    have hc : x' ≤ y' ↔ x ≤ y := by rw [← hx', ← hy, Int32.le_iff_toInt_le]
    refine lv_icmp_le (tgt := q.2.1) hx hb hd ht (fun h1 => ?_) (fun h1 => ?_)
    · rw [if_pos (hc.mp h1)] at hs; cases hs
      exact k ads H locs cells slots ls _ hads hW hL hN hT
    · rw [if_neg (fun z => h1 (hc.mpr z))] at hs; cases hs
      exact k ads H locs cells slots ls _ hads hW hL hN hT
  · cases hs

theorem g_goto (hx : p.tables.exec = Jvm.exec) (hb : c.code = cc) {off : Int} (ht : (σ.1 : Int) + off = (q.2.1 : Int)) (hd : decode cc σ.1 = .ok (.goto off, 3)) (hs : s_goto q σ = some (Sum.inl σ')) (k : Go p l e R s m args below meth c Q D A adK b Ls xs nL hj c0 s0 ads0 σ') : Go p l e R s m args below meth c Q D A adK b Ls xs nL hj c0 s0 ads0 σ := by
  unfold s_goto pnext at hs
  obtain ⟨pc, L, st, lay, nx, h⟩ := σ
  cases hs
  refine Go.mk (fun ads H locs cells slots ls stv hads hW hL hN hT => ?_)
  refine lv_goto (tgt := q.2.1) hx hb hd ht ?_
  exact k ads H locs cells slots ls _ hads hW hL hN hT

theorem g_tswitch (hx : p.tables.exec = Jvm.exec) (hb : c.code = cc) {dflt lo hi : Int} {offs : Array Int} {len d : Nat} {ts : List Nat} (hw : pswt[q.2.1]? = some (lo, hi, d, ts)) (hd : decode cc σ.1 = .ok (.tableswitch dflt lo hi offs, len)) (hdf : (σ.1 : Int) + dflt = (d : Int)) (hts : ∀ (i t : Nat), ts[i]? = some t → ∃ off, offs[i]? = some off ∧ (σ.1 : Int) + off = (t : Int)) (hs : s_tswitch q σ = some (Sum.inl σ')) (k : Go p l e R s m args below meth c Q D A adK b Ls xs nL hj c0 s0 ads0 σ') : Go p l e R s m args below meth c Q D A adK b Ls xs nL hj c0 s0 ads0 σ := by
  obtain ⟨pc, L, st, lay, nx, h⟩ := σ
  unfold s_tswitch pnext at hs
  split at hs
  · rename_i pc L x st lay nx h heq
    cases heq
    rw [hw] at hs
    dsimp only at hs
    refine Go.mk (fun ads H locs cells slots ls stv hads hW hL hN hT => ?_)
    obtain ⟨x', vs2, rfl, hx', hT⟩ := hT.consI
    by_cases hout : x < lo ∨ hi < x
    · rw [if_pos hout] at hs; cases hs
      refine lv_tableOut (tgt := d) hx hb hd (by rw [hx']; exact hout) hdf ?_
      exact k ads H locs cells slots ls _ hads hW hL hN hT
    · rw [if_neg hout] at hs
      split at hs
      · rename_i t ht
        cases hs
        obtain ⟨off, ho, ht2⟩ := hts _ _ ht
        refine lv_tableIn (tgt := t) hx hb hd (fun z => hout (Or.inl (by rw [← hx']; exact z))) (fun z => hout (Or.inr (by rw [← hx']; exact z))) (by rw [hx']; exact ho) ht2 ?_
        exact k ads H locs cells slots ls _ hads hW hL hN hT
      · cases hs
  · cases hs

end G1
