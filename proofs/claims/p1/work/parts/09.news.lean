section G3
variable {p : Program} {l : Launch} {e : Env} {R : Room} {s : State} {m : MethodId} {args : Array Value} {below : List Frame} {meth : Method} {c : Code} {Q : State → Prop} {cc : ByteArray} {D : va_G} {A : Nat → Prop} {adK : Nat → Nat} {b Ls : Nat} {xs : Nat → Int32} {nL : Nat} {hj : Bool} {c0 s0 : Nat} {ads0 : List Nat} {q : PI} {σ σ' : PS}
/-- the room that a state's count of cells and slots needs -/
def RB (R : Room) (c0 s0 : Nat) (σ : PS) : Prop := σ.2.2.2.1.length + σ.2.2.2.2.1 ≤ c0 + R.cells ∧ szs σ.2.2.2.1 + 6 * σ.2.2.2.2.1 ≤ s0 + R.slots
theorem tapp {α : Type} (l : List α) (x : α) : (l ++ [x])[l.length]? = some x := by simp
theorem szs_app (lay : PY) (q : Nat × Nat) : szs (lay ++ [q]) = szs lay + cellSlots q := by simp [szs]
theorem pfx_app {α : Type} {l1 l2 l3 : List α} (h : l1 <+: l2) : l1 <+: l2 ++ l3 := h.trans (List.prefix_append _ _)
theorem len_of {ads : List Nat} {lay : PY} {ws : va_W} {tys : List (ClassId × FieldType)} {h : PC} (h1 : ws.map (fun z => z.1) = ads) (h6 : HR tys ws lay h) : ads.length = lay.length := by rw [← h1, List.length_map]; exact h6.1

theorem g_new (hx : p.tables.exec = Jvm.exec) (hb : c.code = cc) {own : String} {idx : Nat} {r : vw_C} (hown : s.vm.findClass own = some m.cls) (hr : vwCl[q.2.1]? = some r) (hU : ∀ w ∈ u_ws r.1 r.2.1 r.2.2, w.before args s = true) (hclink : (Jvm.Cond.classLink own idx r.1).before args s = true) (hinst : (Jvm.Cond.instantiable r.1 r.2.2).before args s = true) (hini : (Jvm.Cond.initialized r.1).before args s = true) (hA : ∀ q, s.heap.size ≤ q → A q) (hdef : ∀ k9, k9 < r.2.2 → ∀ {ads : List Nat}, FR ads (fkd (tyOf q.2.1 k9)) 0 0 (defaultValue (tyOf q.2.1 k9))) (hrb : RB R c0 s0 σ') (hd : decode cc σ.1 = .ok (.new idx, 3)) (hs : s_new q σ = some (Sum.inl σ')) (k : Go p l e R s m args below meth c Q D A adK b Ls xs nL hj c0 s0 ads0 σ') : Go p l e R s m args below meth c Q D A adK b Ls xs nL hj c0 s0 ads0 σ := by
  unfold s_new pnext at hs
  obtain ⟨pc, L, st, lay, nx, h⟩ := σ
  cases hs
  refine Go.mk (fun ads H locs cells slots ls stv hads hW hL hN hT => ?_)
  have hT2 := hT
  obtain ⟨ws, tys, h1, h2, h3, h4, h5, h6, h7, h8, h9⟩ := id hW
  obtain ⟨hN9, hci, hty, hnm⟩ := pN_of _ _ hr
  obtain ⟨C9, T9, N9⟩ := r
  have hrb1 := hrb.1; have hrb2 := hrb.2
  dsimp only at hrb1 hrb2 hN9
  rw [szs_app] at hrb2
  have hcs : cellSlots (0, q.2.1) = N9 := by rw [hN9]; rfl
  rw [hcs] at hrb2
  simp only [List.length_append, List.length_cons, List.length_nil] at hrb1
  refine va_new (c0 := c) (fs := (List.range N9).map (fun j => defaultValue (tyOf q.2.1 j))) hx hb hU (fun _ z => z) (tyOf q.2.1) hty hown hclink hinst hini h2 h3 h4 h5 hA hr (fun j hj => ?_) (by omega) (by show slots + N9 ≤ R.slots; omega) hd (fun q9 H1 hP1 hD1 hS1 => ?_)
  · unfold vp_V; rw [List.getD_eq_getElem?_getD, List.getElem?_map, List.getElem?_range hj]; rfl
  · have hw9 := WRel.push (q := (0, q.2.1)) (tys' := tys) h1 h2 (List.prefix_refl _) h6 h7 h8 h9 (e' := .inr (q.2.1, (List.range N9).map (fun j => defaultValue (tyOf q.2.1 j)))) ⟨_, rfl, by simp [hN9], hci, fun k9 hk9 => ⟨_, by rw [List.getElem?_map, List.getElem?_range (by rw [hN9]; exact hk9)]; rfl, hdef k9 (by rw [hN9]; exact hk9)⟩⟩ hP1 hD1 hS1
    rw [hcs] at hw9
    refine k (ads ++ [q9]) H1 locs (cells + 1) (slots + N9) ls _ (pfx_app hads) hw9 (hL.up (List.prefix_append _ _)) hN ⟨Or.inl ⟨ads.length, q9, by rw [List.getElem?_append_right (Nat.le_refl _), Nat.sub_self]; rfl, by rw [len_of h1 h6], rfl⟩, hT2.up (List.prefix_append _ _)⟩

theorem hdef_all : ∀ ci : Nat, ci < 9 → ∀ k : Nat, k < pN ci → fkd (tyOf ci k) < 4 := by decide +kernel
theorem hdef_of {ty : FieldType} (h : fkd ty < 4) {ads : List Nat} : FR ads (fkd ty) 0 0 (defaultValue ty) := by
  cases ty <;> first | exact ⟨0, rfl, rfl⟩ | exact Or.inl ⟨rfl, rfl⟩ | (simp [fkd] at h)

theorem bytes_ok {n : Int} {ty : FieldType} {kb : Nat} (h : n ≤ 100000) (hb : componentBytes ty = kb) (hk : kb ≤ 8) : n.toNat * componentBytes ty ≤ 536870912 := by
  rw [hb]
  exact Nat.le_trans (Nat.mul_le_mul (show n.toNat ≤ 100000 by omega) hk) (by decide)
def atk : ArrayType → Nat
  | .int => 1 | .long => 2 | .byte => 3 | .boolean => 4 | _ => 0

theorem g_newa (hx : p.tables.exec = Jvm.exec) (hb : c.code = cc) {at9 : ArrayType} (hat : atk at9 = q.2.1) (harr : (Jvm.Cond.arrayClass (newarray.typeOf at9)).before args s = true) (hA : ∀ q, s.heap.size ≤ q → A q) (hrb : RB R c0 s0 σ') (hd : decode cc σ.1 = .ok (.newarray at9, 2)) (hs : s_newa q σ = some (Sum.inl σ')) (k : Go p l e R s m args below meth c Q D A adK b Ls xs nL hj c0 s0 ads0 σ') : Go p l e R s m args below meth c Q D A adK b Ls xs nL hj c0 s0 ads0 σ := by
  unfold s_newa pnext at hs
  split at hs
  · rename_i pc L n st lay nx h
    split at hs
    · rename_i hcond
      cases hs
      refine Go.mk (fun ads H locs cells slots ls stv hads hW hL hN hT => ?_)
      obtain ⟨y9, vs1, rfl, hy9, hT2⟩ := hT.consI
      obtain ⟨ws, tys, h1, h2, h3, h4, h5, h6, h7, h8, h9⟩ := id hW
      have hrb1 := hrb.1; have hrb2 := hrb.2
      dsimp only at hrb1 hrb2
      rw [szs_app] at hrb2
      have hcs : cellSlots (q.2.1, n.toNat) = n.toNat := by unfold cellSlots; rw [if_neg (by show ¬ q.2.1 = 0; omega)]
      rw [hcs] at hrb2
      simp only [List.length_append, List.length_cons, List.length_nil] at hrb1
      have hyn : ¬ y9 < 0 := fun z => by have := Int32.lt_iff_toInt_lt.mp z; rw [hy9] at this; have h3 : (0 : Int32).toInt = 0 := rfl; omega
      have hyt : y9.toNatClampNeg = n.toNat := by show y9.toInt.toNat = _; rw [hy9]
      rcases hcond.2.2 with hk9 | hk9 | hk9 | hk9
      · obtain rfl : at9 = .int := by rw [hk9] at hat; revert hat; cases at9 <;> simp [atk]
        refine va_newa (atype := .int) (ty := .int) (a0 := (n.toNat, .inl (fun _ => 0))) (N' := n.toNat) hx hb harr rfl h2 h3 h4 h5 hA (fun _ => rfl) hyn hyt (bytes_ok hcond.2.1 (kb := 4) rfl (by decide)) (by omega) (by omega) hd (fun q9 cA H1 hK1 hP1 hD1 hS1 => ?_)
        have hC9 : CRl (ads ++ [q9]) (tys ++ [(cA, .int)]) (q.2.1, n.toNat) (fun _ => 0) (fun _ => 0) (.inl (cA, n.toNat, .inl (fun _ => 0))) := by rw [hk9]; exact ⟨cA, tys.length, _, rfl, tapp _ _, fun _ => rfl⟩
        have hw9 := WRel.push (q := (q.2.1, n.toNat)) h1 hK1 (List.prefix_append _ _) h6 h7 h8 h9 hC9 hP1 hD1 hS1
        rw [hcs] at hw9
        refine k (ads ++ [q9]) H1 locs (cells + 1) (slots + n.toNat) ls _ (pfx_app hads) hw9 (hL.up (List.prefix_append _ _)) hN ⟨Or.inl ⟨ads.length, q9, by rw [List.getElem?_append_right (Nat.le_refl _), Nat.sub_self]; rfl, by rw [len_of h1 h6], rfl⟩, hT2.up (List.prefix_append _ _)⟩
      · obtain rfl : at9 = .long := by rw [hk9] at hat; revert hat; cases at9 <;> simp [atk]
        refine va_newa (atype := .long) (ty := .long) (a0 := (n.toNat, .inr (.inl (fun _ => 0)))) (N' := n.toNat) hx hb harr rfl h2 h3 h4 h5 hA (fun _ => rfl) hyn hyt (bytes_ok hcond.2.1 (kb := 8) rfl (by decide)) (by omega) (by omega) hd (fun q9 cA H1 hK1 hP1 hD1 hS1 => ?_)
        have hC9 : CRl (ads ++ [q9]) (tys ++ [(cA, .long)]) (q.2.1, n.toNat) (fun _ => 0) (fun _ => 0) (.inl (cA, n.toNat, .inr (.inl (fun _ => 0)))) := by rw [hk9]; exact ⟨cA, tys.length, _, rfl, tapp _ _, fun _ => rfl⟩
        have hw9 := WRel.push (q := (q.2.1, n.toNat)) h1 hK1 (List.prefix_append _ _) h6 h7 h8 h9 hC9 hP1 hD1 hS1
        rw [hcs] at hw9
        refine k (ads ++ [q9]) H1 locs (cells + 1) (slots + n.toNat) ls _ (pfx_app hads) hw9 (hL.up (List.prefix_append _ _)) hN ⟨Or.inl ⟨ads.length, q9, by rw [List.getElem?_append_right (Nat.le_refl _), Nat.sub_self]; rfl, by rw [len_of h1 h6], rfl⟩, hT2.up (List.prefix_append _ _)⟩
      · obtain rfl : at9 = .byte := by rw [hk9] at hat; revert hat; cases at9 <;> simp [atk]
        refine va_newa (atype := .byte) (ty := .byte) (a0 := (n.toNat, .inl (fun _ => 0))) (N' := n.toNat) hx hb harr rfl h2 h3 h4 h5 hA (fun _ => rfl) hyn hyt (bytes_ok hcond.2.1 (kb := 1) rfl (by decide)) (by omega) (by omega) hd (fun q9 cA H1 hK1 hP1 hD1 hS1 => ?_)
        have hC9 : CRl (ads ++ [q9]) (tys ++ [(cA, .byte)]) (q.2.1, n.toNat) (fun _ => 0) (fun _ => 0) (.inl (cA, n.toNat, .inl (fun _ => 0))) := by rw [hk9]; exact ⟨cA, tys.length, _, rfl, tapp _ _, fun _ => rfl⟩
        have hw9 := WRel.push (q := (q.2.1, n.toNat)) h1 hK1 (List.prefix_append _ _) h6 h7 h8 h9 hC9 hP1 hD1 hS1
        rw [hcs] at hw9
        refine k (ads ++ [q9]) H1 locs (cells + 1) (slots + n.toNat) ls _ (pfx_app hads) hw9 (hL.up (List.prefix_append _ _)) hN ⟨Or.inl ⟨ads.length, q9, by rw [List.getElem?_append_right (Nat.le_refl _), Nat.sub_self]; rfl, by rw [len_of h1 h6], rfl⟩, hT2.up (List.prefix_append _ _)⟩
      · obtain rfl : at9 = .boolean := by rw [hk9] at hat; revert hat; cases at9 <;> simp [atk]
        refine va_newa (atype := .boolean) (ty := .boolean) (a0 := (n.toNat, .inl (fun _ => 0))) (N' := n.toNat) hx hb harr rfl h2 h3 h4 h5 hA (fun _ => rfl) hyn hyt (bytes_ok hcond.2.1 (kb := 1) rfl (by decide)) (by omega) (by omega) hd (fun q9 cA H1 hK1 hP1 hD1 hS1 => ?_)
        have hC9 : CRl (ads ++ [q9]) (tys ++ [(cA, .boolean)]) (q.2.1, n.toNat) (fun _ => 0) (fun _ => 0) (.inl (cA, n.toNat, .inl (fun _ => 0))) := by rw [hk9]; exact ⟨cA, tys.length, _, rfl, tapp _ _, fun _ => rfl⟩
        have hw9 := WRel.push (q := (q.2.1, n.toNat)) h1 hK1 (List.prefix_append _ _) h6 h7 h8 h9 hC9 hP1 hD1 hS1
        rw [hcs] at hw9
        refine k (ads ++ [q9]) H1 locs (cells + 1) (slots + n.toNat) ls _ (pfx_app hads) hw9 (hL.up (List.prefix_append _ _)) hN ⟨Or.inl ⟨ads.length, q9, by rw [List.getElem?_append_right (Nat.le_refl _), Nat.sub_self]; rfl, by rw [len_of h1 h6], rfl⟩, hT2.up (List.prefix_append _ _)⟩
    · cases hs
  · cases hs

theorem g_newq (hx : p.tables.exec = Jvm.exec) (hb : c.code = cc) {own : String} {idx : Nat} (hown : s.vm.findClass own = some m.cls) (hclink : (Jvm.Cond.classLink own idx "LetterAuction$Standing").before args s = true) (hover : va_AO "LetterAuction$Standing" s) (hA : ∀ q, s.heap.size ≤ q → A q) (hrb : RB R c0 s0 σ') (hd : decode cc σ.1 = .ok (.anewarray idx, 3)) (hs : s_newq q σ = some (Sum.inl σ')) (k : Go p l e R s m args below meth c Q D A adK b Ls xs nL hj c0 s0 ads0 σ') : Go p l e R s m args below meth c Q D A adK b Ls xs nL hj c0 s0 ads0 σ := by
  unfold s_newq pnext at hs
  split at hs
  · rename_i pc L n st lay nx h
    split at hs
    · rename_i hcond
      cases hs
      refine Go.mk (fun ads H locs cells slots ls stv hads hW hL hN hT => ?_)
      obtain ⟨y9, vs1, rfl, hy9, hT2⟩ := hT.consI
      obtain ⟨ws, tys, h1, h2, h3, h4, h5, h6, h7, h8, h9⟩ := id hW
      have hrb1 := hrb.1; have hrb2 := hrb.2
      dsimp only at hrb1 hrb2
      rw [szs_app] at hrb2
      have hcs : cellSlots (5, n.toNat) = n.toNat := rfl
      rw [hcs] at hrb2
      simp only [List.length_append, List.length_cons, List.length_nil] at hrb1
      have hyn : ¬ y9 < 0 := fun z => by have := Int32.lt_iff_toInt_lt.mp z; rw [hy9] at this; have h3 : (0 : Int32).toInt = 0 := rfl; omega
      have hyt : y9.toNatClampNeg = n.toNat := by show y9.toInt.toNat = _; rw [hy9]
      refine va_newq (C := "LetterAuction$Standing") hx hb hown hclink hover h2 h3 h4 h5 hA hyn hyt (by have : n.toNat ≤ 100000 := (by omega); omega) (by omega) (by omega) hd (fun q9 cA H1 hK1 hP1 hD1 hS1 => ?_)
      have hC9 : CRl (ads ++ [q9]) (tys ++ [(cA, .object "LetterAuction$Standing")]) (5, n.toNat) (fun _ => 0) (fun _ => 0) (.inl (cA, n.toNat, .inr (.inr (.inr (.inr (fun _ => none)))))) := ⟨cA, tys.length, _, rfl, tapp _ _, fun _ => Or.inl ⟨rfl, rfl⟩⟩
      have hw9 := WRel.push (q := (5, n.toNat)) h1 hK1 (List.prefix_append _ _) h6 h7 h8 h9 hC9 hP1 hD1 hS1
      rw [hcs] at hw9
      refine k (ads ++ [q9]) H1 locs (cells + 1) (slots + n.toNat) ls _ (pfx_app hads) hw9 (hL.up (List.prefix_append _ _)) hN ⟨Or.inl ⟨ads.length, q9, by rw [List.getElem?_append_right (Nat.le_refl _), Nat.sub_self]; rfl, by rw [len_of h1 h6], rfl⟩, hT2.up (List.prefix_append _ _)⟩
    · cases hs
  · cases hs

theorem g_oinit (hx : p.tables.exec = Jvm.exec) (hb : c.code = cc) {own : String} {idx : Nat} (hown : s.vm.findClass own = some m.cls) (hml : c.maxLocals = nL) (hlink : (Jvm.Cond.methodLink own idx objectInit).before args s = true) (hinst : (Jvm.Cond.instanceMethod objectInit).before args s = true) (hcode : (Jvm.Cond.code objectInit ⟨#[0xb1]⟩ 1 none).before args s = true) (hfr : 1 ≤ R.frames) (hlo : 41 ≤ R.locals) (hd : decode cc σ.1 = .ok (.invokespecial idx, 3)) (hs : s_oinit q σ = some (Sum.inl σ')) (k : Go p l e R s m args below meth c Q D A adK b Ls xs nL hj c0 s0 ads0 σ') : Go p l e R s m args below meth c Q D A adK b Ls xs nL hj c0 s0 ads0 σ := by
  unfold s_oinit pnext at hs
  split at hs
  · rename_i pc L a st lay nx h
    split at hs
    · rename_i hcond
      cases hs
      refine Go.mk (fun ads H locs cells slots ls stv hads hW hL hN hT => ?_)
      obtain ⟨i, addr, vs', rfl, hia, rfl, hT2⟩ := hT.consR hcond.1
      have hc9 := hT2.cats
      have hl9 := hL.2.choose_spec.1.1
      refine W.objInit hx hb hown hlink hinst hcode rfl (by rw [hml]; exact hl9) rfl hd hfr (by have := hcond.2; simp only [JFrame.monitorRoom]; omega) ?_
      refine W.eq (g2 := F0 m (pc + 3) ls vs') rfl ?_
      exact k ads H locs cells slots ls _ hads hW hL hN hT2
    · cases hs
  · cases hs

theorem g_ldcs (hx : p.tables.exec = Jvm.exec) (hb : c.code = cc) {own tx : String} {idx : Nat} (hown : s.vm.findClass own = some m.cls) (hZ : vk_R own idx tx (adK q.2.1) s) (hlt : q.2.1 < 7) (hd : decode cc σ.1 = .ok (.ldc idx, 2)) (hs : s_ldcs q σ = some (Sum.inl σ')) (k : Go p l e R s m args below meth c Q D A adK b Ls xs nL hj c0 s0 ads0 σ') : Go p l e R s m args below meth c Q D A adK b Ls xs nL hj c0 s0 ads0 σ := by
  unfold s_ldcs pnext at hs
  obtain ⟨pc, L, st, lay, nx, h⟩ := σ
  cases hs
  refine Go.mk (fun ads H locs cells slots ls stv hads hW hL hN hT => ?_)
  refine va_ldcS hx hb hown hZ hd ?_
  exact k ads H locs cells slots ls _ hads hW hL hN ⟨Or.inr (Or.inl ⟨q.2.1, hlt, rfl, rfl⟩), hT⟩

theorem g_sld (hx : p.tables.exec = Jvm.exec) (hb : c.code = cc) (hX : va_X b Ls xs s s.heap) (hbl : b < s.heap.size) (hbA : ¬ A b) (hLs : Ls < 2147483648) (hd : decode cc σ.1 = .ok (.iaload, 1)) (hs : s_sld q σ = some (Sum.inl σ')) (k : Go p l e R s m args below meth c Q D A adK b Ls xs nL hj c0 s0 ads0 σ') : Go p l e R s m args below meth c Q D A adK b Ls xs nL hj c0 s0 ads0 σ := by
  unfold s_sld pnext at hs
  split at hs
  · rename_i pc L j9 a st lay nx h
    split at hs
    · rename_i hcond
      cases hs
      refine Go.mk (fun ads H locs cells slots ls stv hads hW hL hN hT => ?_)
      obtain ⟨y9, vs1, rfl, hy9, hT1⟩ := hT.consI
      obtain ⟨v9, vs2, rfl, hv9, hT2⟩ := hT1.cons
      obtain ⟨ha9, h09, hi9⟩ := hcond
      subst ha9
      obtain rfl : v9 = .ref b := by
        rcases hv9 with ⟨i, a, -, h1, -⟩ | ⟨i, h1, h2, -⟩ | ⟨-, h1⟩ | ⟨h1, -⟩
        · omega
        · omega
        · exact h1
        · omega
      obtain ⟨ws, tys, h1, h2, h3, h4, h5, h6, h7, h8, h9⟩ := id hW
      obtain ⟨hin9, hix⟩ := ix_in (n := Ls) hy9 h09 (by rw [← h7.2]; exact hi9)
      refine va_sld hx hb hX hbl hbA h5 hin9 hd ?_
      refine k ads H locs cells slots ls _ hads hW hL hN ⟨⟨_, rfl, ?_⟩, hT2⟩
      rw [← h7.1 _ (by have := h7.2; omega), hix]
    · cases hs
  · cases hs

theorem g_slen (hx : p.tables.exec = Jvm.exec) (hb : c.code = cc) (hX : va_X b Ls xs s s.heap) (hbl : b < s.heap.size) (hbA : ¬ A b) (hLs : Ls < 2147483648) (hd : decode cc σ.1 = .ok (.arraylength, 1)) (hs : s_slen q σ = some (Sum.inl σ')) (k : Go p l e R s m args below meth c Q D A adK b Ls xs nL hj c0 s0 ads0 σ') : Go p l e R s m args below meth c Q D A adK b Ls xs nL hj c0 s0 ads0 σ := by
  unfold s_slen pnext at hs
  split at hs
  · rename_i pc L a st lay nx h
    split at hs
    · rename_i hcond
      cases hs
      refine Go.mk (fun ads H locs cells slots ls stv hads hW hL hN hT => ?_)
      obtain ⟨v9, vs2, rfl, hv9, hT2⟩ := hT.cons
      subst hcond
      obtain rfl : v9 = .ref b := by
        rcases hv9 with ⟨i, a, -, h1, -⟩ | ⟨i, h1, h2, -⟩ | ⟨-, h1⟩ | ⟨h1, -⟩
        · omega
        · omega
        · exact h1
        · omega
      obtain ⟨ws, tys, h1, h2, h3, h4, h5, h6, h7, h8, h9⟩ := id hW
      refine va_slen hx hb hX hbl hbA h5 hd ?_
      refine k ads H locs cells slots ls _ hads hW hL hN ⟨⟨_, rfl, ?_⟩, hT2⟩
      rw [h7.2, Int32.toInt_ofNat']
      exact w32_id (by omega) (by omega)
    · cases hs
  · cases hs

theorem g_acopy (hx : p.tables.exec = Jvm.exec) (hb : c.code = cc) {own : String} {idx : Nat} (hown : s.vm.findClass own = some m.cls) (hml : c.maxLocals = nL) (hlink : (Jvm.Cond.methodLink own idx arraycopyName).before args s = true) (hnat : (Jvm.Cond.native arraycopyName).before args s = true) (hstat : (Jvm.Cond.static arraycopyName).before args s = true) (hini : (Jvm.Cond.initialized "java/lang/System").before args s = true) (hfr : 1 ≤ R.frames) (hlo : 41 ≤ R.locals) (hd : decode cc σ.1 = .ok (.invokestatic idx, 3)) (hs : s_acopy q σ = some (Sum.inl σ')) (k : Go p l e R s m args below meth c Q D A adK b Ls xs nL hj c0 s0 ads0 σ') : Go p l e R s m args below meth c Q D A adK b Ls xs nL hj c0 s0 ads0 σ := by
  unfold s_acopy pnext at hs
  split at hs
  · rename_i pc L n dp b9 sp a st lay nx h
    split at hs
    · rename_i hcond
      cases hs
      refine Go.mk (fun ads H locs cells slots ls stv hads hW hL hN hT => ?_)
      obtain ⟨yn, vs1, rfl, hyn, hT1⟩ := hT.consI
      obtain ⟨yd, vs2, rfl, hyd, hT2⟩ := hT1.consI
      obtain ⟨kb, ab, vs3, rfl, hkb, rfl, hT3⟩ := hT2.consR hcond.2.1
      obtain ⟨ys, vs4, rfl, hys, hT4⟩ := hT3.consI
      obtain ⟨ka, aa, vs5, rfl, hka, rfl, hT5⟩ := hT4.consR hcond.1
      obtain ⟨hca, hcb, hka1, hkb1, hsp, hdp, hn9, hl1, hl2, hc8⟩ := hcond
      obtain ⟨ia, na, hia2, hla, hana⟩ := ak_get hka1 hca (by decide)
      obtain rfl : ia = ka := by omega
      obtain ⟨ib, nb, hib2, hlb, hanb⟩ := ak_get hkb1 hcb (by decide)
      obtain rfl : ib = kb := by omega
      obtain ⟨ws, tys, ea, h1, h2, h3, h4, h5, h6, h7, h8, h9, hwa, hCa⟩ := hW.find hka hla
      obtain ⟨ab2, eb, hwb, hCb⟩ := h6.2 _ _ hlb
      obtain rfl : ab2 = ab := by
        have q3 : ads[ib]? = some ab2 := by rw [← h1, List.getElem?_map, hwb]; rfl
        exact (Option.some.inj (hkb.symm.trans q3)).symm
      obtain ⟨cA, ta, fa, rfl, hta, hfa⟩ : CRi _ .int _ _ _ := hCa
      obtain ⟨cB, tb, fb, rfl, htb, hfb⟩ : CRi _ .int _ _ _ := hCb
      have nn : ∀ {y : Int32} {z : Int}, y.toInt = z → 0 ≤ z → ¬ y < 0 ∧ ((y.toNatClampNeg : Nat) : Int) = z := by
        intro y z hy hz
        refine ⟨fun q => ?_, ?_⟩
        · have := Int32.lt_iff_toInt_lt.mp q; rw [hy] at this; have h3 : (0 : Int32).toInt = 0 := rfl; omega
        · show ((y.toInt.toNat : Nat) : Int) = z; rw [hy]; omega
      obtain ⟨n1, n2⟩ := nn hyn hn9
      obtain ⟨d1, d2⟩ := nn hyd hdp
      obtain ⟨s1, s2⟩ := nn hys hsp
      have hc9 := hT5.cats
      refine va_copyi hx hb (by rw [hml]; exact hL.2.choose_spec.1.1.symm) hown hlink hnat hstat hini h2 h3 h4 h5 ia ib ta tb hwa hwb hta htb rfl s1 d1 n1 (by omega) (by omega) (fun _ _ => rfl) hfr (by rw [hc9]; have h0 : nativeFrameWords "java/lang/System" "arraycopy" 5 ≤ 20 := (by decide); omega) hd (fun H1 locs1 hP1 hD1 hS1 => ?_)
      refine k ads H1 locs1 cells slots ls _ hads (WRel.set h1 h2 h6 h7 h8 h9 hwb hlb ?_ (fun a9 hne => ⟨?_, rfl⟩) rfl hP1 hD1 hS1) hL hN hT5
      · refine ⟨cB, tb, _, rfl, htb, fun j => ?_⟩
        unfold va_cpy pcpy fcpy
        dsimp only
        by_cases hj : yd.toNatClampNeg ≤ j ∧ j < yd.toNatClampNeg + yn.toNatClampNeg
        · rw [if_pos hj, if_pos ⟨rfl, by omega, by omega⟩, hfa]
          refine congrArg (h.1 ((ia : Int) + 1)) ?_
          omega
        · rw [if_neg hj, if_neg (fun z => hj ⟨by omega, by omega⟩), hfb]
      · funext k9; unfold pcpy fcpy; dsimp only; rw [if_neg (fun z => hne z.1)]
    · cases hs
  · cases hs

end G3
