theorem kd_get {lay : PY} {a : Int} {k n : Nat} (h : kd lay a = (k, n)) (ha : 0 < a) (hk : k ≠ 9) : ∃ i : Nat, a = (i : Int) + 1 ∧ lay[i]? = some (k, n) := by
  refine ⟨(a - 1).toNat, by omega, ?_⟩
  unfold kd at h
  rw [if_neg (by omega)] at h
  cases hc : lay[(a - 1).toNat]? with
  | none => rw [List.getD_eq_getElem?_getD, hc] at h; exact absurd (Prod.mk.inj h).1.symm hk
  | some z => rw [List.getD_eq_getElem?_getD, hc] at h; exact congrArg some h
theorem ak_get {lay : PY} {a : Int} {k : Nat} (h : ak lay a = k) (ha : 0 < a) (hk : k ≠ 9) : ∃ i n : Nat, a = (i : Int) + 1 ∧ lay[i]? = some (k, n) ∧ al lay a = (n : Int) := by
  obtain ⟨i, h1, h2⟩ := kd_get (k := k) (n := (kd lay a).2) (by rw [← h]; rfl) ha hk
  exact ⟨i, _, h1, h2, rfl⟩
theorem VR.pos {ads : List Nat} {adK : Nat → Nat} {b : Nat} {x : Int} {v : Value} (h : VR ads adK b (Sum.inr (Sum.inr x)) v) (hx : 0 < x) : RRf ads x v := by
  rcases h with h | ⟨i, -, h, -⟩ | ⟨h, -⟩ | ⟨h, -⟩
  · exact h
  · omega
  · omega
  · omega
theorem TRel.consR {ads : List Nat} {adK : Nat → Nat} {b : Nat} {x : Int} {st : List PV} {vs : List Value} (h : TRel ads adK b (Sum.inr (Sum.inr x) :: st) vs) (hx : 0 < x) : ∃ (i a : Nat) (vs' : List Value), vs = .ref a :: vs' ∧ ads[i]? = some a ∧ x = (i : Int) + 1 ∧ TRel ads adK b st vs' := by
  obtain ⟨v, vs', rfl, h1, h2⟩ := h.cons
  obtain ⟨i, a, h3, h4, rfl⟩ := VR.pos h1 hx
  exact ⟨i, a, vs', rfl, h3, h4, h2⟩
theorem CRl.up {ads ads' : List Nat} {tys tys' : List (ClassId × FieldType)} (hads : ads <+: ads') (ht : tys <+: tys') {q : Nat × Nat} {g r : Int → Int} {e : va_E} (h : CRl ads tys q g r e) : CRl ads' tys' q g r e := by
  have ht' : ∀ (t0 : Nat) (z : ClassId × FieldType), tys[t0]? = some z → tys'[t0]? = some z := by
    intro t0 z hz
    obtain ⟨ext, rfl⟩ := ht
    rw [List.getElem?_append_left (List.getElem?_eq_some_iff.mp hz).1]
    exact hz
  obtain ⟨k, n⟩ := q
  unfold CRl at h ⊢
  split at h
  · obtain ⟨fs, h1, h2, h3, h4⟩ := h
    refine ⟨fs, h1, h2, h3, fun k hk => ?_⟩
    obtain ⟨v, h5, h6⟩ := h4 k hk
    refine ⟨v, h5, ?_⟩
    unfold FR at h6 ⊢
    split at h6 <;> try exact h6
    exact h6.imp id (fun z => z.up hads)
  · obtain ⟨cA, t0, f, h1, h2, h3⟩ := h
    exact ⟨cA, t0, f, h1, ht' _ _ h2, h3⟩
  · obtain ⟨cA, t0, f, h1, h2, h3⟩ := h
    exact ⟨cA, t0, f, h1, ht' _ _ h2, h3⟩
  · obtain ⟨cA, t0, f, h1, h2, h3⟩ := h
    exact ⟨cA, t0, f, h1, ht' _ _ h2, h3⟩
  · obtain ⟨cA, t0, f, h1, h2, h3⟩ := h
    exact ⟨cA, t0, f, h1, ht' _ _ h2, h3⟩
  · obtain ⟨cA, t0, f, h1, h2, h3⟩ := h
    exact ⟨cA, t0, f, h1, ht' _ _ h2, fun j => (h3 j).imp id (fun ⟨i, a, h4, h5⟩ => ⟨i, a, pfx_get hads h4, h5⟩)⟩
  · exact h.elim
theorem set_same {α : Type} {l : List α} {i : Nat} {x : α} (h : l[i]? = some x) : l.set i x = l := by
  obtain ⟨hl, rfl⟩ := List.getElem?_eq_some_iff.mp h
  exact List.set_getElem_self hl
theorem fup_ne {f : PF} {a k v a' : Int} (hne : a' ≠ a) : fup f a k v a' = f a' := by
  funext k'
  unfold fup
  rw [if_neg (fun z => hne z.1)]
theorem pup_ne {h : PC} {a k v a' : Int} (hne : a' ≠ a) : (pup h a k v).1 a' = h.1 a' ∧ (pup h a k v).2.1 a' = h.2.1 a' := ⟨fup_ne hne, rfl⟩
theorem rup_ne {h : PC} {a k v a' : Int} (hne : a' ≠ a) : (rup h a k v).1 a' = h.1 a' ∧ (rup h a k v).2.1 a' = h.2.1 a' := ⟨rfl, fup_ne hne⟩
section WR
variable {D : va_G} {s : State} {A : Nat → Prop} {Ls : Nat} {xs : Nat → Int32} {c0 s0 : Nat} {ads : List Nat} {lay : PY} {nx : Nat} {h h' : PC} {H H1 : Heap} {locs locs1 : List Loc} {cells slots : Nat}
/-- the cell that a reference stands for -/
theorem WRel.find (hW : WRel D s A Ls xs c0 s0 ads lay nx h H locs cells slots) {i addr k n : Nat} (hi : ads[i]? = some addr) (hl : lay[i]? = some (k, n)) :
    ∃ (ws : va_W) (tys : List (ClassId × FieldType)) (e : va_E), ws.map (fun z => z.1) = ads ∧ va_K D vwCl tys s ∧ va_P D vwCl ws H ∧ va_D A ws ∧ va_S A s.heap H locs ∧ HR tys ws lay h ∧ SCr Ls xs h ∧ c0 + cells = lay.length + nx ∧ s0 + slots = szs lay + 6 * nx ∧ ws[i]? = some (addr, e) ∧ CRl ads tys (k, n) (h.1 ((i : Int) + 1)) (h.2.1 ((i : Int) + 1)) e := by
  obtain ⟨ws, tys, h1, h2, h3, h4, h5, h6, h7, h8, h9⟩ := hW
  obtain ⟨a', e, q1, q2⟩ := h6.2 i _ hl
  have q3 : ads[i]? = some a' := by rw [← h1, List.getElem?_map, q1]; rfl
  cases hi.symm.trans q3
  exact ⟨ws, tys, e, h1, h2, h3, h4, h5, h6, h7, h8, h9, q1, by rw [← h1]; exact q2⟩
/-- one cell is written -/
theorem WRel.set {ws : va_W} {tys : List (ClassId × FieldType)} {i addr k n : Nat} {e e' : va_E} (h1 : ws.map (fun z => z.1) = ads) (h2 : va_K D vwCl tys s) (h6 : HR tys ws lay h) (h7 : SCr Ls xs h) (h8 : c0 + cells = lay.length + nx) (h9 : s0 + slots = szs lay + 6 * nx) (hi : ws[i]? = some (addr, e)) (hl : lay[i]? = some (k, n))
    (hC : CRl ads tys (k, n) (h'.1 ((i : Int) + 1)) (h'.2.1 ((i : Int) + 1)) e') (hoth : ∀ a', a' ≠ (i : Int) + 1 → h'.1 a' = h.1 a' ∧ h'.2.1 a' = h.2.1 a') (hscr : h'.2.2 = h.2.2) (hP : va_P D vwCl (ws.set i (addr, e')) H1) (hD : va_D A (ws.set i (addr, e'))) (hS : va_S A s.heap H1 locs1) : WRel D s A Ls xs c0 s0 ads lay nx h' H1 locs1 cells slots := by
  have hm : (ws.set i (addr, e')).map (fun z => z.1) = ads := by
    rw [List.map_set, h1]
    exact set_same (by rw [← h1, List.getElem?_map, hi]; rfl)
  refine ⟨_, tys, hm, h2, hP, hD, hS, ⟨by rw [List.length_set]; exact h6.1, fun j q hq => ?_⟩, ⟨fun j hj => by rw [hscr]; exact h7.1 j hj, by rw [hscr]; exact h7.2⟩, h8, h9⟩
  rw [hm]
  by_cases hij : i = j
  · subst hij
    cases hl.symm.trans hq
    exact ⟨addr, e', List.getElem?_set_self (List.getElem?_eq_some_iff.mp hi).1, hC⟩
  · obtain ⟨a2, e2, q1, q2⟩ := h6.2 j q hq
    refine ⟨a2, e2, by rw [List.getElem?_set_ne hij]; exact q1, ?_⟩
    obtain ⟨o1, o2⟩ := hoth ((j : Int) + 1) (by omega)
    rw [o1, o2, ← h1]
    exact q2
/-- one cell is made -/
theorem WRel.push {ws : va_W} {tys tys' : List (ClassId × FieldType)} {q0 : Nat} {q : Nat × Nat} {e' : va_E} (h1 : ws.map (fun z => z.1) = ads) (h2 : va_K D vwCl tys' s) (ht : tys <+: tys') (h6 : HR tys ws lay h) (h7 : SCr Ls xs h) (h8 : c0 + cells = lay.length + nx) (h9 : s0 + slots = szs lay + 6 * nx)
    (hC : CRl (ads ++ [q0]) tys' q (fun _ => 0) (fun _ => 0) e') (hP : va_P D vwCl (ws ++ [(q0, e')]) H1) (hD : va_D A (ws ++ [(q0, e')])) (hS : va_S A s.heap H1 locs1) : WRel D s A Ls xs c0 s0 (ads ++ [q0]) (lay ++ [q]) nx (pzero h ((lay.length : Int) + 1)) H1 locs1 (cells + 1) (slots + cellSlots q) := by
  have hm : (ws ++ [(q0, e')]).map (fun z => z.1) = ads ++ [q0] := by simp [h1]
  refine ⟨_, tys', hm, h2, hP, hD, hS, ⟨by simp [h6.1], fun j z hz => ?_⟩, h7, by simp; omega, by simp [szs]; have := h9; simp [szs] at this; omega⟩
  · rw [hm]
    by_cases hj : j < lay.length
    · rw [List.getElem?_append_left hj] at hz
      obtain ⟨a2, e2, q1, q2⟩ := h6.2 j z hz
      refine ⟨a2, e2, by rw [List.getElem?_append_left (by rw [h6.1]; exact hj)]; exact q1, ?_⟩
      have hz2 : ∀ f : PF, fzero f ((lay.length : Int) + 1) ((j : Int) + 1) = f ((j : Int) + 1) := by
        intro f; funext k'; unfold fzero; rw [if_neg (by omega)]
      unfold pzero
      dsimp only
      rw [hz2, hz2]
      rw [h1] at q2
      exact q2.up (List.prefix_append _ _) ht
    · have hj2 : j = lay.length := by
        have := (List.getElem?_eq_some_iff.mp hz).1
        simp at this; omega
      subst hj2
      rw [List.getElem?_append_right (Nat.le_refl _), Nat.sub_self] at hz
      cases hz
      refine ⟨q0, e', by rw [List.getElem?_append_right (by rw [h6.1]; exact Nat.le_refl _), h6.1, Nat.sub_self]; rfl, ?_⟩
      have hz2 : ∀ f : PF, fzero f ((lay.length : Int) + 1) ((lay.length : Int) + 1) = fun _ => 0 := by
        intro f; funext k'; unfold fzero; rw [if_pos rfl]
      unfold pzero
      dsimp only
      rw [hz2, hz2]
      exact hC
end WR
theorem pN_of : ∀ (ci : Nat) (r : vw_C), vwCl[ci]? = some r → r.2.2 = pN ci ∧ ci < 9 ∧ (∀ k, k < r.2.2 → parseFieldDescriptor (r.2.1 k).2.2.1 = some (tyOf ci k)) ∧ (∀ a, a < r.2.2 → ∀ b, b < r.2.2 → a ≠ b → (r.2.1 a).2.1 ≠ (r.2.1 b).2.1) := by
  intro ci r hr
  match ci, hr with
  | 0, hr => cases hr; exact ⟨rfl, by decide, tyX0_ok, nmX0⟩
  | 1, hr => cases hr; exact ⟨rfl, by decide, tyX1_ok, nmX1⟩
  | 2, hr => cases hr; exact ⟨rfl, by decide, tyX2_ok, nmX2⟩
  | 3, hr => cases hr; exact ⟨rfl, by decide, tyX3_ok, nmX3⟩
  | 4, hr => cases hr; exact ⟨rfl, by decide, tyX4_ok, nmX4⟩
  | 5, hr => cases hr; exact ⟨rfl, by decide, tyX5_ok, nmX5⟩
  | 6, hr => cases hr; exact ⟨rfl, by decide, tyX6_ok, nmX6⟩
  | 7, hr => cases hr; exact ⟨rfl, by decide, tyX7_ok, nmX7⟩
  | 8, hr => cases hr; exact ⟨rfl, by decide, tyX8_ok, nmX8⟩
  | k + 9, hr => simp [vwCl] at hr
theorem ix_in {y : Int32} {i : Int} {n : Nat} (hy : y.toInt = i) (h0 : 0 ≤ i) (h1 : i < n) : vp_in y n ∧ ((y.toNatClampNeg : Nat) : Int) = i := by
  have h2 : ((y.toNatClampNeg : Nat) : Int) = i := by
    show ((y.toInt.toNat : Nat) : Int) = i
    rw [hy]; omega
  refine ⟨fun z => ?_, h2⟩
  rcases z with z | z
  · have := Int32.lt_iff_toInt_lt.mp z
    rw [hy] at this
    have h3 : (0 : Int32).toInt = 0 := rfl
    omega
  · omega
section G2
variable {p : Program} {l : Launch} {e : Env} {R : Room} {s : State} {m : MethodId} {args : Array Value} {below : List Frame} {meth : Method} {c : Code} {Q : State → Prop} {cc : ByteArray} {D : va_G} {A : Nat → Prop} {adK : Nat → Nat} {b Ls : Nat} {xs : Nat → Int32} {nL : Nat} {hj : Bool} {c0 s0 : Nat} {ads0 : List Nat} {q : PI} {σ σ' : PS}

theorem g_getI (hx : p.tables.exec = Jvm.exec) (hb : c.code = cc) {own : String} {idx : Nat} {r : vw_C} (hown : s.vm.findClass own = some m.cls) (hr : vwCl[q.2.2.1]? = some r) (hU : ∀ w ∈ u_ws r.1 r.2.1 r.2.2, w.before args s = true) (hkk : q.2.2.2.1 < r.2.2) (hlink : (Jvm.Cond.fieldLink own idx (r.2.1 q.2.2.2.1).1 (r.2.1 q.2.2.2.1).2.1 (r.2.1 q.2.2.2.1).2.2.1).before args s = true) (hf : fkd (tyOf q.2.2.1 q.2.2.2.1) = 0 ∨ fkd (tyOf q.2.2.1 q.2.2.2.1) = 1) (hd : decode cc σ.1 = .ok (.getfield idx, 3)) (hs : s_getI q σ = some (Sum.inl σ')) (k : Go p l e R s m args below meth c Q D A adK b Ls xs nL hj c0 s0 ads0 σ') : Go p l e R s m args below meth c Q D A adK b Ls xs nL hj c0 s0 ads0 σ := by
  unfold s_getI pnext at hs
  split at hs
  · rename_i pc L a st lay nx h
    split at hs
    · rename_i hcond
      cases hs
      refine Go.mk (fun ads H locs cells slots ls stv hads hW hL hN hT => ?_)
      obtain ⟨i, addr, vs', rfl, hia, rfl, hT2⟩ := hT.consR hcond.1
      obtain ⟨i2, hi2, hl⟩ := kd_get hcond.2 hcond.1 (by decide)
      obtain rfl : i2 = i := by omega
      obtain ⟨ws, tys, e9, h1, h2, h3, h4, h5, h6, h7, h8, h9, hw, hC⟩ := hW.find hia hl
      obtain ⟨fs, rfl, hfl, -, hfs⟩ : CRo _ _ _ _ _ := hC
      obtain ⟨hN9, hci, hty, hnm⟩ := pN_of _ _ hr
      obtain ⟨v9, hv9, hf9⟩ := hfs q.2.2.2.1 (by rw [← hN9]; exact hkk)
      obtain ⟨C9, T9, N9⟩ := r
      obtain ⟨y9, rfl, hy9⟩ : ∃ y : Int32, v9 = .int y ∧ y.toInt = _ := by rcases hf with hf | hf <;> (rw [hf] at hf9; exact hf9)
      refine va_get hx hb hU (fun _ z => z) hown h2 h3 i2 hw hr q.2.2.2.1 hkk hlink (fun _ z => z) hv9 hd ?_
      exact k ads H locs cells slots ls _ hads hW hL hN ⟨⟨y9, rfl, hy9⟩, hT2⟩
    · cases hs
  · cases hs

theorem g_getJ (hx : p.tables.exec = Jvm.exec) (hb : c.code = cc) {own : String} {idx : Nat} {r : vw_C} (hown : s.vm.findClass own = some m.cls) (hr : vwCl[q.2.2.1]? = some r) (hU : ∀ w ∈ u_ws r.1 r.2.1 r.2.2, w.before args s = true) (hkk : q.2.2.2.1 < r.2.2) (hlink : (Jvm.Cond.fieldLink own idx (r.2.1 q.2.2.2.1).1 (r.2.1 q.2.2.2.1).2.1 (r.2.1 q.2.2.2.1).2.2.1).before args s = true) (hf : fkd (tyOf q.2.2.1 q.2.2.2.1) = 2) (hd : decode cc σ.1 = .ok (.getfield idx, 3)) (hs : s_getJ q σ = some (Sum.inl σ')) (k : Go p l e R s m args below meth c Q D A adK b Ls xs nL hj c0 s0 ads0 σ') : Go p l e R s m args below meth c Q D A adK b Ls xs nL hj c0 s0 ads0 σ := by
  unfold s_getJ pnext at hs
  split at hs
  · rename_i pc L a st lay nx h
    split at hs
    · rename_i hcond
      cases hs
      refine Go.mk (fun ads H locs cells slots ls stv hads hW hL hN hT => ?_)
      obtain ⟨i, addr, vs', rfl, hia, rfl, hT2⟩ := hT.consR hcond.1
      obtain ⟨i2, hi2, hl⟩ := kd_get hcond.2 hcond.1 (by decide)
      obtain rfl : i2 = i := by omega
      obtain ⟨ws, tys, e9, h1, h2, h3, h4, h5, h6, h7, h8, h9, hw, hC⟩ := hW.find hia hl
      obtain ⟨fs, rfl, hfl, -, hfs⟩ : CRo _ _ _ _ _ := hC
      obtain ⟨hN9, hci, hty, hnm⟩ := pN_of _ _ hr
      obtain ⟨v9, hv9, hf9⟩ := hfs q.2.2.2.1 (by rw [← hN9]; exact hkk)
      obtain ⟨C9, T9, N9⟩ := r
      obtain ⟨y9, rfl, hy9⟩ : ∃ y : Int64, v9 = .long y ∧ y.toInt = _ := by rw [hf] at hf9; exact hf9
      refine va_get hx hb hU (fun _ z => z) hown h2 h3 i2 hw hr q.2.2.2.1 hkk hlink (fun _ z => z) hv9 hd ?_
      exact k ads H locs cells slots ls _ hads hW hL hN ⟨⟨y9, rfl, hy9⟩, hT2⟩
    · cases hs
  · cases hs

theorem g_getR (hx : p.tables.exec = Jvm.exec) (hb : c.code = cc) {own : String} {idx : Nat} {r : vw_C} (hown : s.vm.findClass own = some m.cls) (hr : vwCl[q.2.2.1]? = some r) (hU : ∀ w ∈ u_ws r.1 r.2.1 r.2.2, w.before args s = true) (hkk : q.2.2.2.1 < r.2.2) (hlink : (Jvm.Cond.fieldLink own idx (r.2.1 q.2.2.2.1).1 (r.2.1 q.2.2.2.1).2.1 (r.2.1 q.2.2.2.1).2.2.1).before args s = true) (hf : fkd (tyOf q.2.2.1 q.2.2.2.1) = 3) (hd : decode cc σ.1 = .ok (.getfield idx, 3)) (hs : s_getR q σ = some (Sum.inl σ')) (k : Go p l e R s m args below meth c Q D A adK b Ls xs nL hj c0 s0 ads0 σ') : Go p l e R s m args below meth c Q D A adK b Ls xs nL hj c0 s0 ads0 σ := by
  unfold s_getR pnext at hs
  split at hs
  · rename_i pc L a st lay nx h
    split at hs
    · rename_i hcond
      cases hs
      refine Go.mk (fun ads H locs cells slots ls stv hads hW hL hN hT => ?_)
      obtain ⟨i, addr, vs', rfl, hia, rfl, hT2⟩ := hT.consR hcond.1
      obtain ⟨i2, hi2, hl⟩ := kd_get hcond.2.1 hcond.1 (by decide)
      obtain rfl : i2 = i := by omega
      obtain ⟨ws, tys, e9, h1, h2, h3, h4, h5, h6, h7, h8, h9, hw, hC⟩ := hW.find hia hl
      obtain ⟨fs, rfl, hfl, -, hfs⟩ : CRo _ _ _ _ _ := hC
      obtain ⟨hN9, hci, hty, hnm⟩ := pN_of _ _ hr
      obtain ⟨v9, hv9, hf9⟩ := hfs q.2.2.2.1 (by rw [← hN9]; exact hkk)
      obtain ⟨C9, T9, N9⟩ := r
      have hy9 : RRf ads (h.2.1 ((i2 : Int) + 1) (q.2.2.2.1 : Int)) v9 := by rw [hf] at hf9; exact hf9.elim (fun z => absurd z.1 (by have := hcond.2.2; omega)) id
      refine va_get hx hb hU (fun _ z => z) hown h2 h3 i2 hw hr q.2.2.2.1 hkk hlink (fun _ z => z) hv9 hd ?_
      exact k ads H locs cells slots ls _ hads hW hL hN ⟨Or.inl hy9, hT2⟩
    · cases hs
  · cases hs

theorem g_putI (hx : p.tables.exec = Jvm.exec) (hb : c.code = cc) {own : String} {idx : Nat} {r : vw_C} (hown : s.vm.findClass own = some m.cls) (hr : vwCl[q.2.2.1]? = some r) (hU : ∀ w ∈ u_ws r.1 r.2.1 r.2.2, w.before args s = true) (hkk : q.2.2.2.1 < r.2.2) (hlink : (Jvm.Cond.fieldLink own idx (r.2.1 q.2.2.2.1).1 (r.2.1 q.2.2.2.1).2.1 (r.2.1 q.2.2.2.1).2.2.1).before args s = true) (hf : tyOf q.2.2.1 q.2.2.2.1 = .int) (hfin : (r.2.1 q.2.2.2.1).2.2.2 = false) (hd : decode cc σ.1 = .ok (.putfield idx, 3)) (hs : s_putI q σ = some (Sum.inl σ')) (k : Go p l e R s m args below meth c Q D A adK b Ls xs nL hj c0 s0 ads0 σ') : Go p l e R s m args below meth c Q D A adK b Ls xs nL hj c0 s0 ads0 σ := by
  unfold s_putI pnext at hs
  split at hs
  · rename_i pc L x a st lay nx h
    split at hs
    · rename_i hcond
      cases hs
      refine Go.mk (fun ads H locs cells slots ls stv hads hW hL hN hT => ?_)
      obtain ⟨y9, vs1, rfl, hy9, hT⟩ := hT.consI
      obtain ⟨i, addr, vs', rfl, hia, rfl, hT2⟩ := hT.consR hcond.1
      obtain ⟨i2, hi2, hl⟩ := kd_get hcond.2 hcond.1 (by decide)
      obtain rfl : i2 = i := by omega
      obtain ⟨ws, tys, e9, h1, h2, h3, h4, h5, h6, h7, h8, h9, hw, hC⟩ := hW.find hia hl
      obtain ⟨fs, rfl, hfl, -, hfs⟩ : CRo _ _ _ _ _ := hC
      obtain ⟨hN9, hci, hty, hnm⟩ := pN_of _ _ hr
      obtain ⟨C9, T9, N9⟩ := r
      refine va_put hx hb hU (fun _ z => z) (tyOf q.2.2.1) hty hnm hown h2 h3 h4 h5 i2 hw hr q.2.2.2.1 hkk hlink (fun _ z => z) hfin (hty _ hkk) (by rw [hf]; exact rfl) (by rw [hf]; exact rfl) (by rw [hfl, ← hN9]; exact hkk) hd (fun H1 locs1 hP1 hD1 hS1 => ?_)
      refine k ads H1 locs1 cells slots ls _ hads (WRel.set h1 h2 h6 h7 h8 h9 hw hl ?_ (fun a9 h => pup_ne h) rfl hP1 hD1 hS1) hL hN hT2
      refine ⟨_, rfl, by rw [List.length_set]; exact hfl, hci, fun k9 hk9 => ?_⟩
      have e8 : ∀ (f : PF) (v9 : Int), fup f ((i2 : Int) + 1) (q.2.2.2.1 : Int) v9 ((i2 : Int) + 1) (q.2.2.2.1 : Int) = v9 := fun f v9 => by unfold fup; rw [if_pos ⟨rfl, rfl⟩]
      have e9 : ∀ (f : PF) (v9 : Int) (k9 : Nat), ¬ q.2.2.2.1 = k9 → fup f ((i2 : Int) + 1) (q.2.2.2.1 : Int) v9 ((i2 : Int) + 1) (k9 : Int) = f ((i2 : Int) + 1) (k9 : Int) := fun f v9 k9 hkq => by unfold fup; rw [if_neg (fun z => hkq (by omega))]
      by_cases hkq : q.2.2.2.1 = k9
      · subst hkq
        refine ⟨_, List.getElem?_set_self (by rw [hfl]; exact hk9), ?_⟩
        unfold pup
        dsimp only
        rw [e8]
        rw [hf]; exact ⟨y9, rfl, hy9⟩
      · obtain ⟨v8, hv8, hf8⟩ := hfs k9 hk9
        refine ⟨v8, by rw [List.getElem?_set_ne hkq]; exact hv8, ?_⟩
        unfold pup
        dsimp only
        rw [e9 _ _ _ hkq]
        exact hf8
    · cases hs
  · cases hs

theorem g_putZ (hx : p.tables.exec = Jvm.exec) (hb : c.code = cc) {own : String} {idx : Nat} {r : vw_C} (hown : s.vm.findClass own = some m.cls) (hr : vwCl[q.2.2.1]? = some r) (hU : ∀ w ∈ u_ws r.1 r.2.1 r.2.2, w.before args s = true) (hkk : q.2.2.2.1 < r.2.2) (hlink : (Jvm.Cond.fieldLink own idx (r.2.1 q.2.2.2.1).1 (r.2.1 q.2.2.2.1).2.1 (r.2.1 q.2.2.2.1).2.2.1).before args s = true) (hf : tyOf q.2.2.1 q.2.2.2.1 = .boolean) (hfin : (r.2.1 q.2.2.2.1).2.2.2 = false) (hd : decode cc σ.1 = .ok (.putfield idx, 3)) (hs : s_putZ q σ = some (Sum.inl σ')) (k : Go p l e R s m args below meth c Q D A adK b Ls xs nL hj c0 s0 ads0 σ') : Go p l e R s m args below meth c Q D A adK b Ls xs nL hj c0 s0 ads0 σ := by
  unfold s_putZ pnext at hs
  split at hs
  · rename_i pc L x a st lay nx h
    split at hs
    · rename_i hcond
      cases hs
      refine Go.mk (fun ads H locs cells slots ls stv hads hW hL hN hT => ?_)
      obtain ⟨y9, vs1, rfl, hy9, hT⟩ := hT.consI
      have hb9 : y9 = 0 ∨ y9 = 1 := hcond.2.2.imp (fun z => Int32.toInt_inj.mp (by rw [hy9, z]; rfl)) (fun z => Int32.toInt_inj.mp (by rw [hy9, z]; rfl))
      obtain ⟨i, addr, vs', rfl, hia, rfl, hT2⟩ := hT.consR hcond.1
      obtain ⟨i2, hi2, hl⟩ := kd_get hcond.2.1 hcond.1 (by decide)
      obtain rfl : i2 = i := by omega
      obtain ⟨ws, tys, e9, h1, h2, h3, h4, h5, h6, h7, h8, h9, hw, hC⟩ := hW.find hia hl
      obtain ⟨fs, rfl, hfl, -, hfs⟩ : CRo _ _ _ _ _ := hC
      obtain ⟨hN9, hci, hty, hnm⟩ := pN_of _ _ hr
      obtain ⟨C9, T9, N9⟩ := r
      refine va_put hx hb hU (fun _ z => z) (tyOf q.2.2.1) hty hnm hown h2 h3 h4 h5 i2 hw hr q.2.2.2.1 hkk hlink (fun _ z => z) hfin (hty _ hkk) (by rw [hf]; rcases hb9 with rfl | rfl <;> rfl) (by rw [hf]; rcases hb9 with rfl | rfl <;> rfl) (by rw [hfl, ← hN9]; exact hkk) hd (fun H1 locs1 hP1 hD1 hS1 => ?_)
      refine k ads H1 locs1 cells slots ls _ hads (WRel.set h1 h2 h6 h7 h8 h9 hw hl ?_ (fun a9 h => pup_ne h) rfl hP1 hD1 hS1) hL hN hT2
      refine ⟨_, rfl, by rw [List.length_set]; exact hfl, hci, fun k9 hk9 => ?_⟩
      have e8 : ∀ (f : PF) (v9 : Int), fup f ((i2 : Int) + 1) (q.2.2.2.1 : Int) v9 ((i2 : Int) + 1) (q.2.2.2.1 : Int) = v9 := fun f v9 => by unfold fup; rw [if_pos ⟨rfl, rfl⟩]
      have e9 : ∀ (f : PF) (v9 : Int) (k9 : Nat), ¬ q.2.2.2.1 = k9 → fup f ((i2 : Int) + 1) (q.2.2.2.1 : Int) v9 ((i2 : Int) + 1) (k9 : Int) = f ((i2 : Int) + 1) (k9 : Int) := fun f v9 k9 hkq => by unfold fup; rw [if_neg (fun z => hkq (by omega))]
      by_cases hkq : q.2.2.2.1 = k9
      · subst hkq
        refine ⟨_, List.getElem?_set_self (by rw [hfl]; exact hk9), ?_⟩
        unfold pup
        dsimp only
        rw [e8]
        rw [hf]; exact ⟨y9, rfl, hy9⟩
      · obtain ⟨v8, hv8, hf8⟩ := hfs k9 hk9
        refine ⟨v8, by rw [List.getElem?_set_ne hkq]; exact hv8, ?_⟩
        unfold pup
        dsimp only
        rw [e9 _ _ _ hkq]
        exact hf8
    · cases hs
  · cases hs

theorem g_putJ (hx : p.tables.exec = Jvm.exec) (hb : c.code = cc) {own : String} {idx : Nat} {r : vw_C} (hown : s.vm.findClass own = some m.cls) (hr : vwCl[q.2.2.1]? = some r) (hU : ∀ w ∈ u_ws r.1 r.2.1 r.2.2, w.before args s = true) (hkk : q.2.2.2.1 < r.2.2) (hlink : (Jvm.Cond.fieldLink own idx (r.2.1 q.2.2.2.1).1 (r.2.1 q.2.2.2.1).2.1 (r.2.1 q.2.2.2.1).2.2.1).before args s = true) (hf : tyOf q.2.2.1 q.2.2.2.1 = .long) (hfin : (r.2.1 q.2.2.2.1).2.2.2 = false) (hd : decode cc σ.1 = .ok (.putfield idx, 3)) (hs : s_putJ q σ = some (Sum.inl σ')) (k : Go p l e R s m args below meth c Q D A adK b Ls xs nL hj c0 s0 ads0 σ') : Go p l e R s m args below meth c Q D A adK b Ls xs nL hj c0 s0 ads0 σ := by
  unfold s_putJ pnext at hs
  split at hs
  · rename_i pc L x a st lay nx h
    split at hs
    · rename_i hcond
      cases hs
      refine Go.mk (fun ads H locs cells slots ls stv hads hW hL hN hT => ?_)
      obtain ⟨y9, vs1, rfl, hy9, hT⟩ := hT.consJ
      obtain ⟨i, addr, vs', rfl, hia, rfl, hT2⟩ := hT.consR hcond.1
      obtain ⟨i2, hi2, hl⟩ := kd_get hcond.2 hcond.1 (by decide)
      obtain rfl : i2 = i := by omega
      obtain ⟨ws, tys, e9, h1, h2, h3, h4, h5, h6, h7, h8, h9, hw, hC⟩ := hW.find hia hl
      obtain ⟨fs, rfl, hfl, -, hfs⟩ : CRo _ _ _ _ _ := hC
      obtain ⟨hN9, hci, hty, hnm⟩ := pN_of _ _ hr
      obtain ⟨C9, T9, N9⟩ := r
      refine va_put hx hb hU (fun _ z => z) (tyOf q.2.2.1) hty hnm hown h2 h3 h4 h5 i2 hw hr q.2.2.2.1 hkk hlink (fun _ z => z) hfin (hty _ hkk) (by rw [hf]; exact rfl) (by rw [hf]; exact rfl) (by rw [hfl, ← hN9]; exact hkk) hd (fun H1 locs1 hP1 hD1 hS1 => ?_)
      refine k ads H1 locs1 cells slots ls _ hads (WRel.set h1 h2 h6 h7 h8 h9 hw hl ?_ (fun a9 h => pup_ne h) rfl hP1 hD1 hS1) hL hN hT2
      refine ⟨_, rfl, by rw [List.length_set]; exact hfl, hci, fun k9 hk9 => ?_⟩
      have e8 : ∀ (f : PF) (v9 : Int), fup f ((i2 : Int) + 1) (q.2.2.2.1 : Int) v9 ((i2 : Int) + 1) (q.2.2.2.1 : Int) = v9 := fun f v9 => by unfold fup; rw [if_pos ⟨rfl, rfl⟩]
      have e9 : ∀ (f : PF) (v9 : Int) (k9 : Nat), ¬ q.2.2.2.1 = k9 → fup f ((i2 : Int) + 1) (q.2.2.2.1 : Int) v9 ((i2 : Int) + 1) (k9 : Int) = f ((i2 : Int) + 1) (k9 : Int) := fun f v9 k9 hkq => by unfold fup; rw [if_neg (fun z => hkq (by omega))]
      by_cases hkq : q.2.2.2.1 = k9
      · subst hkq
        refine ⟨_, List.getElem?_set_self (by rw [hfl]; exact hk9), ?_⟩
        unfold pup
        dsimp only
        rw [e8]
        rw [hf]; exact ⟨y9, rfl, hy9⟩
      · obtain ⟨v8, hv8, hf8⟩ := hfs k9 hk9
        refine ⟨v8, by rw [List.getElem?_set_ne hkq]; exact hv8, ?_⟩
        unfold pup
        dsimp only
        rw [e9 _ _ _ hkq]
        exact hf8
    · cases hs
  · cases hs

theorem g_putR (hx : p.tables.exec = Jvm.exec) (hb : c.code = cc) {own : String} {idx : Nat} {r : vw_C} (hown : s.vm.findClass own = some m.cls) (hr : vwCl[q.2.2.1]? = some r) (hU : ∀ w ∈ u_ws r.1 r.2.1 r.2.2, w.before args s = true) (hkk : q.2.2.2.1 < r.2.2) (hlink : (Jvm.Cond.fieldLink own idx (r.2.1 q.2.2.2.1).1 (r.2.1 q.2.2.2.1).2.1 (r.2.1 q.2.2.2.1).2.2.1).before args s = true) (hf : fkd (tyOf q.2.2.1 q.2.2.2.1) = 3) (hfin : (r.2.1 q.2.2.2.1).2.2.2 = false) (hd : decode cc σ.1 = .ok (.putfield idx, 3)) (hs : s_putR q σ = some (Sum.inl σ')) (k : Go p l e R s m args below meth c Q D A adK b Ls xs nL hj c0 s0 ads0 σ') : Go p l e R s m args below meth c Q D A adK b Ls xs nL hj c0 s0 ads0 σ := by
  unfold s_putR pnext at hs
  split at hs
  · rename_i pc L x a st lay nx h
    split at hs
    · rename_i hcond
      cases hs
      refine Go.mk (fun ads H locs cells slots ls stv hads hW hL hN hT => ?_)
      obtain ⟨j9, y9, vs1, rfl, hj9, hj8, hT⟩ := hT.consR hcond.2.2
      obtain ⟨i, addr, vs', rfl, hia, rfl, hT2⟩ := hT.consR hcond.1
      obtain ⟨i2, hi2, hl⟩ := kd_get hcond.2.1 hcond.1 (by decide)
      obtain rfl : i2 = i := by omega
      obtain ⟨ws, tys, e9, h1, h2, h3, h4, h5, h6, h7, h8, h9, hw, hC⟩ := hW.find hia hl
      obtain ⟨fs, rfl, hfl, -, hfs⟩ : CRo _ _ _ _ _ := hC
      obtain ⟨hN9, hci, hty, hnm⟩ := pN_of _ _ hr
      obtain ⟨C9, T9, N9⟩ := r
      have hty9 : narrow (tyOf q.2.2.1 q.2.2.2.1) (.ref y9) = .ref y9 ∧ fits (tyOf q.2.2.1 q.2.2.2.1) (.ref y9) = true := by cases ht9 : tyOf q.2.2.1 q.2.2.2.1 <;> rw [ht9] at hf <;> first | exact ⟨rfl, rfl⟩ | (simp [fkd] at hf)
      refine va_put hx hb hU (fun _ z => z) (tyOf q.2.2.1) hty hnm hown h2 h3 h4 h5 i2 hw hr q.2.2.2.1 hkk hlink (fun _ z => z) hfin (hty _ hkk) hty9.1 hty9.2 (by rw [hfl, ← hN9]; exact hkk) hd (fun H1 locs1 hP1 hD1 hS1 => ?_)
      refine k ads H1 locs1 cells slots ls _ hads (WRel.set h1 h2 h6 h7 h8 h9 hw hl ?_ (fun a9 h => rup_ne h) rfl hP1 hD1 hS1) hL hN hT2
      refine ⟨_, rfl, by rw [List.length_set]; exact hfl, hci, fun k9 hk9 => ?_⟩
      have e8 : ∀ (f : PF) (v9 : Int), fup f ((i2 : Int) + 1) (q.2.2.2.1 : Int) v9 ((i2 : Int) + 1) (q.2.2.2.1 : Int) = v9 := fun f v9 => by unfold fup; rw [if_pos ⟨rfl, rfl⟩]
      have e9 : ∀ (f : PF) (v9 : Int) (k9 : Nat), ¬ q.2.2.2.1 = k9 → fup f ((i2 : Int) + 1) (q.2.2.2.1 : Int) v9 ((i2 : Int) + 1) (k9 : Int) = f ((i2 : Int) + 1) (k9 : Int) := fun f v9 k9 hkq => by unfold fup; rw [if_neg (fun z => hkq (by omega))]
      by_cases hkq : q.2.2.2.1 = k9
      · subst hkq
        refine ⟨_, List.getElem?_set_self (by rw [hfl]; exact hk9), ?_⟩
        unfold rup
        dsimp only
        rw [e8]
        rw [hf]; exact Or.inr ⟨j9, y9, hj9, hj8, rfl⟩
      · obtain ⟨v8, hv8, hf8⟩ := hfs k9 hk9
        refine ⟨v8, by rw [List.getElem?_set_ne hkq]; exact hv8, ?_⟩
        unfold rup
        dsimp only
        rw [e9 _ _ _ hkq]
        exact hf8
    · cases hs
  · cases hs

theorem g_putF (hx : p.tables.exec = Jvm.exec) (hb : c.code = cc) {own : String} {idx : Nat} {r : vw_C} (hown : s.vm.findClass own = some m.cls) (hr : vwCl[q.2.2.1]? = some r) (hU : ∀ w ∈ u_ws r.1 r.2.1 r.2.2, w.before args s = true) (hkk : q.2.2.2.1 < r.2.2) (hlink : (Jvm.Cond.fieldLink own idx (r.2.1 q.2.2.2.1).1 (r.2.1 q.2.2.2.1).2.1 (r.2.1 q.2.2.2.1).2.2.1).before args s = true) (hf : fkd (tyOf q.2.2.1 q.2.2.2.1) = 3) (hfin : (r.2.1 q.2.2.2.1).2.2.2 = true) (hinit : meth.name = "<init>") (hdecl : (r.2.1 q.2.2.2.1).1 = own) (hd : decode cc σ.1 = .ok (.putfield idx, 3)) (hs : s_putF q σ = some (Sum.inl σ')) (k : Go p l e R s m args below meth c Q D A adK b Ls xs nL hj c0 s0 ads0 σ') : Go p l e R s m args below meth c Q D A adK b Ls xs nL hj c0 s0 ads0 σ := by
  unfold s_putF pnext at hs
  split at hs
  · rename_i pc L x a st lay nx h
    split at hs
    · rename_i hcond
      cases hs
      refine Go.mk (fun ads H locs cells slots ls stv hads hW hL hN hT => ?_)
      obtain ⟨j9, y9, vs1, rfl, hj9, hj8, hT⟩ := hT.consR hcond.2.2
      obtain ⟨i, addr, vs', rfl, hia, rfl, hT2⟩ := hT.consR hcond.1
      obtain ⟨i2, hi2, hl⟩ := kd_get hcond.2.1 hcond.1 (by decide)
      obtain rfl : i2 = i := by omega
      obtain ⟨ws, tys, e9, h1, h2, h3, h4, h5, h6, h7, h8, h9, hw, hC⟩ := hW.find hia hl
      obtain ⟨fs, rfl, hfl, -, hfs⟩ : CRo _ _ _ _ _ := hC
      obtain ⟨hN9, hci, hty, hnm⟩ := pN_of _ _ hr
      obtain ⟨C9, T9, N9⟩ := r
      have hty9 : narrow (tyOf q.2.2.1 q.2.2.2.1) (.ref y9) = .ref y9 ∧ fits (tyOf q.2.2.1 q.2.2.2.1) (.ref y9) = true := by cases ht9 : tyOf q.2.2.1 q.2.2.2.1 <;> rw [ht9] at hf <;> first | exact ⟨rfl, rfl⟩ | (simp [fkd] at hf)
      refine va_putF hx hb hU (fun _ z => z) (tyOf q.2.2.1) hty hnm hown h2 h3 h4 h5 i2 hw hr q.2.2.2.1 hkk hlink (fun _ z => z) hfin hinit hdecl (hty _ hkk) hty9.1 hty9.2 (by rw [hfl, ← hN9]; exact hkk) hd (fun H1 locs1 hP1 hD1 hS1 => ?_)
      refine k ads H1 locs1 cells slots ls _ hads (WRel.set h1 h2 h6 h7 h8 h9 hw hl ?_ (fun a9 h => rup_ne h) rfl hP1 hD1 hS1) hL hN hT2
      refine ⟨_, rfl, by rw [List.length_set]; exact hfl, hci, fun k9 hk9 => ?_⟩
      have e8 : ∀ (f : PF) (v9 : Int), fup f ((i2 : Int) + 1) (q.2.2.2.1 : Int) v9 ((i2 : Int) + 1) (q.2.2.2.1 : Int) = v9 := fun f v9 => by unfold fup; rw [if_pos ⟨rfl, rfl⟩]
      have e9 : ∀ (f : PF) (v9 : Int) (k9 : Nat), ¬ q.2.2.2.1 = k9 → fup f ((i2 : Int) + 1) (q.2.2.2.1 : Int) v9 ((i2 : Int) + 1) (k9 : Int) = f ((i2 : Int) + 1) (k9 : Int) := fun f v9 k9 hkq => by unfold fup; rw [if_neg (fun z => hkq (by omega))]
      by_cases hkq : q.2.2.2.1 = k9
      · subst hkq
        refine ⟨_, List.getElem?_set_self (by rw [hfl]; exact hk9), ?_⟩
        unfold rup
        dsimp only
        rw [e8]
        rw [hf]; exact Or.inr ⟨j9, y9, hj9, hj8, rfl⟩
      · obtain ⟨v8, hv8, hf8⟩ := hfs k9 hk9
        refine ⟨v8, by rw [List.getElem?_set_ne hkq]; exact hv8, ?_⟩
        unfold rup
        dsimp only
        rw [e9 _ _ _ hkq]
        exact hf8
    · cases hs
  · cases hs

theorem g_iald (hx : p.tables.exec = Jvm.exec) (hb : c.code = cc) (hd : decode cc σ.1 = .ok (.iaload, 1)) (hs : s_iald q σ = some (Sum.inl σ')) (k : Go p l e R s m args below meth c Q D A adK b Ls xs nL hj c0 s0 ads0 σ') : Go p l e R s m args below meth c Q D A adK b Ls xs nL hj c0 s0 ads0 σ := by
  unfold s_iald pnext at hs
  split at hs
  · rename_i pc L j a st lay nx h
    split at hs
    · rename_i hcond
      cases hs
      refine Go.mk (fun ads H locs cells slots ls stv hads hW hL hN hT => ?_)
      obtain ⟨y9, vs1, rfl, hy9, hT⟩ := hT.consI
      obtain ⟨i, addr, vs', rfl, hia, rfl, hT2⟩ := hT.consR hcond.1
      obtain ⟨i2, n9, hi2, hl, han⟩ := ak_get hcond.2.1 hcond.1 (by decide)
      obtain rfl : i2 = i := by omega
      obtain ⟨ws, tys, e9, h1, h2, h3, h4, h5, h6, h7, h8, h9, hw, hC⟩ := hW.find hia hl
      obtain ⟨cA, t0, f9, rfl, ht9, hf9⟩ : CRi _ .int _ _ _ := hC
      obtain ⟨hin9, hix⟩ := ix_in hy9 hcond.2.2.1 (by rw [← han]; exact hcond.2.2.2)
      refine va_iald hx hb h2 h3 i2 t0 hw ht9 hin9 hd ?_
      exact k ads H locs cells slots ls _ hads hW hL hN ⟨⟨_, rfl, by rw [hf9, hix]⟩, hT2⟩
    · cases hs
  · cases hs

theorem g_lald (hx : p.tables.exec = Jvm.exec) (hb : c.code = cc) (hd : decode cc σ.1 = .ok (.laload, 1)) (hs : s_lald q σ = some (Sum.inl σ')) (k : Go p l e R s m args below meth c Q D A adK b Ls xs nL hj c0 s0 ads0 σ') : Go p l e R s m args below meth c Q D A adK b Ls xs nL hj c0 s0 ads0 σ := by
  unfold s_lald pnext at hs
  split at hs
  · rename_i pc L j a st lay nx h
    split at hs
    · rename_i hcond
      cases hs
      refine Go.mk (fun ads H locs cells slots ls stv hads hW hL hN hT => ?_)
      obtain ⟨y9, vs1, rfl, hy9, hT⟩ := hT.consI
      obtain ⟨i, addr, vs', rfl, hia, rfl, hT2⟩ := hT.consR hcond.1
      obtain ⟨i2, n9, hi2, hl, han⟩ := ak_get hcond.2.1 hcond.1 (by decide)
      obtain rfl : i2 = i := by omega
      obtain ⟨ws, tys, e9, h1, h2, h3, h4, h5, h6, h7, h8, h9, hw, hC⟩ := hW.find hia hl
      obtain ⟨cA, t0, f9, rfl, ht9, hf9⟩ : CRj _ _ _ _ := hC
      obtain ⟨hin9, hix⟩ := ix_in hy9 hcond.2.2.1 (by rw [← han]; exact hcond.2.2.2)
      refine va_lald hx hb h2 h3 i2 t0 hw ht9 hin9 hd ?_
      exact k ads H locs cells slots ls _ hads hW hL hN ⟨⟨_, rfl, by rw [hf9, hix]⟩, hT2⟩
    · cases hs
  · cases hs

theorem g_bald (hx : p.tables.exec = Jvm.exec) (hb : c.code = cc) (hd : decode cc σ.1 = .ok (.baload, 1)) (hs : s_bald q σ = some (Sum.inl σ')) (k : Go p l e R s m args below meth c Q D A adK b Ls xs nL hj c0 s0 ads0 σ') : Go p l e R s m args below meth c Q D A adK b Ls xs nL hj c0 s0 ads0 σ := by
  unfold s_bald pnext at hs
  split at hs
  · rename_i pc L j a st lay nx h
    split at hs
    · rename_i hcond
      cases hs
      refine Go.mk (fun ads H locs cells slots ls stv hads hW hL hN hT => ?_)
      obtain ⟨y9, vs1, rfl, hy9, hT⟩ := hT.consI
      obtain ⟨i, addr, vs', rfl, hia, rfl, hT2⟩ := hT.consR hcond.1
      obtain ⟨i2, n9, hi2, hl, han⟩ := ak_get hcond.2.1 hcond.1 (by decide)
      obtain rfl : i2 = i := by omega
      obtain ⟨ws, tys, e9, h1, h2, h3, h4, h5, h6, h7, h8, h9, hw, hC⟩ := hW.find hia hl
      obtain ⟨cA, t0, f9, rfl, ht9, hf9⟩ : CRi _ .byte _ _ _ := hC
      obtain ⟨hin9, hix⟩ := ix_in hy9 hcond.2.2.1 (by rw [← han]; exact hcond.2.2.2)
      refine va_bald hx hb h2 h3 i2 t0 hw ht9 hin9 hd ?_
      exact k ads H locs cells slots ls _ hads hW hL hN ⟨⟨_, rfl, by rw [hf9, hix]⟩, hT2⟩
    · cases hs
  · cases hs

theorem g_zald (hx : p.tables.exec = Jvm.exec) (hb : c.code = cc) (hd : decode cc σ.1 = .ok (.baload, 1)) (hs : s_zald q σ = some (Sum.inl σ')) (k : Go p l e R s m args below meth c Q D A adK b Ls xs nL hj c0 s0 ads0 σ') : Go p l e R s m args below meth c Q D A adK b Ls xs nL hj c0 s0 ads0 σ := by
  unfold s_zald pnext at hs
  split at hs
  · rename_i pc L j a st lay nx h
    split at hs
    · rename_i hcond
      cases hs
      refine Go.mk (fun ads H locs cells slots ls stv hads hW hL hN hT => ?_)
      obtain ⟨y9, vs1, rfl, hy9, hT⟩ := hT.consI
      obtain ⟨i, addr, vs', rfl, hia, rfl, hT2⟩ := hT.consR hcond.1
      obtain ⟨i2, n9, hi2, hl, han⟩ := ak_get hcond.2.1 hcond.1 (by decide)
      obtain rfl : i2 = i := by omega
      obtain ⟨ws, tys, e9, h1, h2, h3, h4, h5, h6, h7, h8, h9, hw, hC⟩ := hW.find hia hl
      obtain ⟨cA, t0, f9, rfl, ht9, hf9⟩ : CRi _ .boolean _ _ _ := hC
      obtain ⟨hin9, hix⟩ := ix_in hy9 hcond.2.2.1 (by rw [← han]; exact hcond.2.2.2)
      refine va_zald hx hb h2 h3 i2 t0 hw ht9 hin9 hd ?_
      exact k ads H locs cells slots ls _ hads hW hL hN ⟨⟨_, rfl, by rw [hf9, hix]⟩, hT2⟩
    · cases hs
  · cases hs

theorem g_aald (hx : p.tables.exec = Jvm.exec) (hb : c.code = cc) (hd : decode cc σ.1 = .ok (.aaload, 1)) (hs : s_aald q σ = some (Sum.inl σ')) (k : Go p l e R s m args below meth c Q D A adK b Ls xs nL hj c0 s0 ads0 σ') : Go p l e R s m args below meth c Q D A adK b Ls xs nL hj c0 s0 ads0 σ := by
  unfold s_aald pnext at hs
  split at hs
  · rename_i pc L j9 a st lay nx h
    split at hs
    · rename_i hcond
      cases hs
      refine Go.mk (fun ads H locs cells slots ls stv hads hW hL hN hT => ?_)
      obtain ⟨y9, vs1, rfl, hy9, hT⟩ := hT.consI
      obtain ⟨i, addr, vs', rfl, hia, rfl, hT2⟩ := hT.consR hcond.1
      obtain ⟨i2, n9, hi2, hl, han⟩ := ak_get hcond.2.1 hcond.1 (by decide)
      obtain rfl : i2 = i := by omega
      obtain ⟨ws, tys, e9, h1, h2, h3, h4, h5, h6, h7, h8, h9, hw, hC⟩ := hW.find hia hl
      obtain ⟨cA, t0, f9, rfl, ht9, hf9⟩ : CRq _ _ _ _ _ := hC
      obtain ⟨hin9, hix⟩ := ix_in hy9 hcond.2.2.1 (by rw [← han]; exact hcond.2.2.2.1)
      refine va_aldq hx hb h2 h3 i2 t0 hw ht9 hin9 hd ?_
      obtain ⟨j9, a9, q1, q2, q3⟩ : ∃ (j a : Nat), ads[j]? = some a ∧ h.2.1 ((i2 : Int) + 1) j9 = (j : Int) + 1 ∧ f9 y9.toNatClampNeg = some a := by
        have := hf9 y9.toNatClampNeg
        rw [hix] at this
        exact this.elim (fun z => absurd z.1 (by have := hcond.2.2.2.2; omega)) id
      rw [q3]
      exact k ads H locs cells slots ls _ hads hW hL hN ⟨Or.inl ⟨j9, a9, q1, q2, rfl⟩, hT2⟩
    · cases hs
  · cases hs

theorem g_iast (hx : p.tables.exec = Jvm.exec) (hb : c.code = cc) (hd : decode cc σ.1 = .ok (.iastore, 1)) (hs : s_iast q σ = some (Sum.inl σ')) (k : Go p l e R s m args below meth c Q D A adK b Ls xs nL hj c0 s0 ads0 σ') : Go p l e R s m args below meth c Q D A adK b Ls xs nL hj c0 s0 ads0 σ := by
  unfold s_iast pnext at hs
  split at hs
  · rename_i pc L x jx a st lay nx h
    split at hs
    · rename_i hcond
      cases hs
      refine Go.mk (fun ads H locs cells slots ls stv hads hW hL hN hT => ?_)
      obtain ⟨x9, vs0, rfl, hx9, hT⟩ := hT.consI
      obtain ⟨y9, vs1, rfl, hy9, hT⟩ := hT.consI
      obtain ⟨i, addr, vs', rfl, hia, rfl, hT2⟩ := hT.consR hcond.1
      obtain ⟨i2, n9, hi2, hl, han⟩ := ak_get hcond.2.1 hcond.1 (by decide)
      obtain rfl : i2 = i := by omega
      obtain ⟨ws, tys, e9, h1, h2, h3, h4, h5, h6, h7, h8, h9, hw, hC⟩ := hW.find hia hl
      obtain ⟨cA, t0, f9, rfl, ht9, hf9⟩ : CRi _ .int _ _ _ := hC
      obtain ⟨hin9, hix⟩ := ix_in hy9 hcond.2.2.1 (by rw [← han]; exact hcond.2.2.2)
      have u9 : ∀ (z : Nat → Int32) (w : Int32) (hz : ∀ j : Nat, (z j).toInt = h.1 ((i2 : Int) + 1) j) (v9 : Int) (hv : w.toInt = v9), ∀ j : Nat, (upd z y9.toNatClampNeg w j).toInt = (pup h ((i2 : Int) + 1) jx v9).1 ((i2 : Int) + 1) j := by
        intro z w hz v9 hv j
        unfold upd pup fup
        dsimp only
        by_cases hj : j = y9.toNatClampNeg
        · rw [if_pos hj, if_pos ⟨rfl, by rw [hj, hix]⟩, hv]
        · rw [if_neg hj, if_neg (fun q => hj (by have := q.2; omega)), hz]
      refine va_iast hx hb h2 h3 h4 h5 i2 t0 hw ht9 hin9 hd (fun H1 locs1 hP1 hD1 hS1 => ?_)
      refine k ads H1 locs1 cells slots ls _ hads (WRel.set h1 h2 h6 h7 h8 h9 hw hl ?_ (fun a9 h => pup_ne h) rfl hP1 hD1 hS1) hL hN hT2
      exact ⟨cA, t0, _, rfl, ht9, u9 _ _ hf9 _ hx9⟩
    · cases hs
  · cases hs

theorem g_last (hx : p.tables.exec = Jvm.exec) (hb : c.code = cc) (hd : decode cc σ.1 = .ok (.lastore, 1)) (hs : s_last q σ = some (Sum.inl σ')) (k : Go p l e R s m args below meth c Q D A adK b Ls xs nL hj c0 s0 ads0 σ') : Go p l e R s m args below meth c Q D A adK b Ls xs nL hj c0 s0 ads0 σ := by
  unfold s_last pnext at hs
  split at hs
  · rename_i pc L x jx a st lay nx h
    split at hs
    · rename_i hcond
      cases hs
      refine Go.mk (fun ads H locs cells slots ls stv hads hW hL hN hT => ?_)
      obtain ⟨x9, vs0, rfl, hx9, hT⟩ := hT.consJ
      obtain ⟨y9, vs1, rfl, hy9, hT⟩ := hT.consI
      obtain ⟨i, addr, vs', rfl, hia, rfl, hT2⟩ := hT.consR hcond.1
      obtain ⟨i2, n9, hi2, hl, han⟩ := ak_get hcond.2.1 hcond.1 (by decide)
      obtain rfl : i2 = i := by omega
      obtain ⟨ws, tys, e9, h1, h2, h3, h4, h5, h6, h7, h8, h9, hw, hC⟩ := hW.find hia hl
      obtain ⟨cA, t0, f9, rfl, ht9, hf9⟩ : CRj _ _ _ _ := hC
      obtain ⟨hin9, hix⟩ := ix_in hy9 hcond.2.2.1 (by rw [← han]; exact hcond.2.2.2)
      have u9 : ∀ (z : Nat → Int64) (w : Int64) (hz : ∀ j : Nat, (z j).toInt = h.1 ((i2 : Int) + 1) j) (v9 : Int) (hv : w.toInt = v9), ∀ j : Nat, (vp_updL z y9.toNatClampNeg w j).toInt = (pup h ((i2 : Int) + 1) jx v9).1 ((i2 : Int) + 1) j := by
        intro z w hz v9 hv j
        unfold vp_updL pup fup
        dsimp only
        by_cases hj : j = y9.toNatClampNeg
        · rw [if_pos hj, if_pos ⟨rfl, by rw [hj, hix]⟩, hv]
        · rw [if_neg hj, if_neg (fun q => hj (by have := q.2; omega)), hz]
      refine va_last hx hb h2 h3 h4 h5 i2 t0 hw ht9 hin9 hd (fun H1 locs1 hP1 hD1 hS1 => ?_)
      refine k ads H1 locs1 cells slots ls _ hads (WRel.set h1 h2 h6 h7 h8 h9 hw hl ?_ (fun a9 h => pup_ne h) rfl hP1 hD1 hS1) hL hN hT2
      exact ⟨cA, t0, _, rfl, ht9, u9 _ _ hf9 _ hx9⟩
    · cases hs
  · cases hs

theorem g_bast (hx : p.tables.exec = Jvm.exec) (hb : c.code = cc) (hd : decode cc σ.1 = .ok (.bastore, 1)) (hs : s_bast q σ = some (Sum.inl σ')) (k : Go p l e R s m args below meth c Q D A adK b Ls xs nL hj c0 s0 ads0 σ') : Go p l e R s m args below meth c Q D A adK b Ls xs nL hj c0 s0 ads0 σ := by
  unfold s_bast pnext at hs
  split at hs
  · rename_i pc L x jx a st lay nx h
    split at hs
    · rename_i hcond
      cases hs
      refine Go.mk (fun ads H locs cells slots ls stv hads hW hL hN hT => ?_)
      obtain ⟨x9, vs0, rfl, hx9, hT⟩ := hT.consI
      obtain ⟨y9, vs1, rfl, hy9, hT⟩ := hT.consI
      obtain ⟨i, addr, vs', rfl, hia, rfl, hT2⟩ := hT.consR hcond.1
      obtain ⟨i2, n9, hi2, hl, han⟩ := ak_get hcond.2.1 hcond.1 (by decide)
      obtain rfl : i2 = i := by omega
      obtain ⟨ws, tys, e9, h1, h2, h3, h4, h5, h6, h7, h8, h9, hw, hC⟩ := hW.find hia hl
      obtain ⟨cA, t0, f9, rfl, ht9, hf9⟩ : CRi _ .byte _ _ _ := hC
      obtain ⟨hin9, hix⟩ := ix_in hy9 hcond.2.2.1 (by rw [← han]; exact hcond.2.2.2)
      have u9 : ∀ (z : Nat → Int32) (w : Int32) (hz : ∀ j : Nat, (z j).toInt = h.1 ((i2 : Int) + 1) j) (v9 : Int) (hv : w.toInt = v9), ∀ j : Nat, (upd z y9.toNatClampNeg w j).toInt = (pup h ((i2 : Int) + 1) jx v9).1 ((i2 : Int) + 1) j := by
        intro z w hz v9 hv j
        unfold upd pup fup
        dsimp only
        by_cases hj : j = y9.toNatClampNeg
        · rw [if_pos hj, if_pos ⟨rfl, by rw [hj, hix]⟩, hv]
        · rw [if_neg hj, if_neg (fun q => hj (by have := q.2; omega)), hz]
      refine va_bast hx hb h2 h3 h4 h5 i2 t0 hw ht9 hin9 hd (fun H1 locs1 hP1 hD1 hS1 => ?_)
      refine k ads H1 locs1 cells slots ls _ hads (WRel.set h1 h2 h6 h7 h8 h9 hw hl ?_ (fun a9 h => pup_ne h) rfl hP1 hD1 hS1) hL hN hT2
      exact ⟨cA, t0, _, rfl, ht9, u9 _ _ hf9 _ (by rw [vp_nar_byte, Int8.toInt_toInt32, Int32.toInt_toInt8, hx9]; rfl)⟩
    · cases hs
  · cases hs

theorem g_zast (hx : p.tables.exec = Jvm.exec) (hb : c.code = cc) (hd : decode cc σ.1 = .ok (.bastore, 1)) (hs : s_zast q σ = some (Sum.inl σ')) (k : Go p l e R s m args below meth c Q D A adK b Ls xs nL hj c0 s0 ads0 σ') : Go p l e R s m args below meth c Q D A adK b Ls xs nL hj c0 s0 ads0 σ := by
  unfold s_zast pnext at hs
  split at hs
  · rename_i pc L x jx a st lay nx h
    split at hs
    · rename_i hcond
      cases hs
      refine Go.mk (fun ads H locs cells slots ls stv hads hW hL hN hT => ?_)
      obtain ⟨x9, vs0, rfl, hx9, hT⟩ := hT.consI
      obtain ⟨y9, vs1, rfl, hy9, hT⟩ := hT.consI
      obtain ⟨i, addr, vs', rfl, hia, rfl, hT2⟩ := hT.consR hcond.1
      obtain ⟨i2, n9, hi2, hl, han⟩ := ak_get hcond.2.1 hcond.1 (by decide)
      obtain rfl : i2 = i := by omega
      obtain ⟨ws, tys, e9, h1, h2, h3, h4, h5, h6, h7, h8, h9, hw, hC⟩ := hW.find hia hl
      obtain ⟨cA, t0, f9, rfl, ht9, hf9⟩ : CRi _ .boolean _ _ _ := hC
      obtain ⟨hin9, hix⟩ := ix_in hy9 hcond.2.2.1 (by rw [← han]; exact hcond.2.2.2.1)
      have u9 : ∀ (z : Nat → Int32) (w : Int32) (hz : ∀ j : Nat, (z j).toInt = h.1 ((i2 : Int) + 1) j) (v9 : Int) (hv : w.toInt = v9), ∀ j : Nat, (upd z y9.toNatClampNeg w j).toInt = (pup h ((i2 : Int) + 1) jx v9).1 ((i2 : Int) + 1) j := by
        intro z w hz v9 hv j
        unfold upd pup fup
        dsimp only
        by_cases hj : j = y9.toNatClampNeg
        · rw [if_pos hj, if_pos ⟨rfl, by rw [hj, hix]⟩, hv]
        · rw [if_neg hj, if_neg (fun q => hj (by have := q.2; omega)), hz]
      have hb9 : x9 = 0 ∨ x9 = 1 := hcond.2.2.2.2.imp (fun z => Int32.toInt_inj.mp (by rw [hx9, z]; rfl)) (fun z => Int32.toInt_inj.mp (by rw [hx9, z]; rfl))
      refine va_zast hx hb h2 h3 h4 h5 i2 t0 hw ht9 hin9 hd (fun H1 locs1 hP1 hD1 hS1 => ?_)
      refine k ads H1 locs1 cells slots ls _ hads (WRel.set h1 h2 h6 h7 h8 h9 hw hl ?_ (fun a9 h => pup_ne h) rfl hP1 hD1 hS1) hL hN hT2
      exact ⟨cA, t0, _, rfl, ht9, u9 _ _ hf9 _ (by rcases hb9 with rfl | rfl <;> exact hx9)⟩
    · cases hs
  · cases hs

theorem g_aast (hx : p.tables.exec = Jvm.exec) (hb : c.code = cc) (hd : decode cc σ.1 = .ok (.aastore, 1)) (hs : s_aast q σ = some (Sum.inl σ')) (k : Go p l e R s m args below meth c Q D A adK b Ls xs nL hj c0 s0 ads0 σ') : Go p l e R s m args below meth c Q D A adK b Ls xs nL hj c0 s0 ads0 σ := by
  unfold s_aast pnext at hs
  split at hs
  · rename_i pc L x jx a st lay nx h
    split at hs
    · rename_i hcond
      cases hs
      refine Go.mk (fun ads H locs cells slots ls stv hads hW hL hN hT => ?_)
      obtain ⟨kx, ax, vs0, rfl, hkx, rfl, hT0⟩ := hT.consR hcond.2.2.2.2.1
      obtain ⟨y9, vs1, rfl, hy9, hT1⟩ := hT0.consI
      obtain ⟨i, addr, vs', rfl, hia, rfl, hT2⟩ := hT1.consR hcond.1
      obtain ⟨i2, n9, hi2, hl, han⟩ := ak_get hcond.2.1 hcond.1 (by decide)
      obtain rfl : i2 = i := by omega
      obtain ⟨ws, tys, e9, h1, h2, h3, h4, h5, h6, h7, h8, h9, hw, hC⟩ := hW.find hia hl
      obtain ⟨cA, t0, f9, rfl, ht9, hf9⟩ : CRq _ _ _ _ _ := hC
      obtain ⟨hin9, hix⟩ := ix_in hy9 hcond.2.2.1 (by rw [← han]; exact hcond.2.2.2.1)
      obtain ⟨k2, hk2, hlk⟩ := kd_get hcond.2.2.2.2.2 hcond.2.2.2.2.1 (by decide)
      obtain rfl : k2 = kx := by omega
      obtain ⟨ak, ek, qk1, qk2⟩ := h6.2 k2 _ hlk
      obtain rfl : ak = ax := by
        have q3 : ads[k2]? = some ak := by rw [← h1, List.getElem?_map, qk1]; rfl
        exact (Option.some.inj (hkx.symm.trans q3)).symm
      obtain ⟨fs, rfl, hfl, -, hfs⟩ : CRo _ _ _ _ _ := qk2
      refine va_astq (r := (RX5, TX5, 15)) (qk := k2) (ci := 5) hx hb h2 h3 h4 h5 i2 t0 hw ht9 qk1 rfl hin9 hd (fun H1 locs1 hP1 hD1 hS1 => ?_)
      refine k ads H1 locs1 cells slots ls _ hads (WRel.set h1 h2 h6 h7 h8 h9 hw hl ?_ (fun a9 h => rup_ne h) rfl hP1 hD1 hS1) hL hN hT2
      refine ⟨cA, t0, _, rfl, ht9, fun j => ?_⟩
      unfold va_up rup fup
      dsimp only
      by_cases hj : j = y9.toNatClampNeg
      · rw [if_pos hj, if_pos ⟨rfl, by rw [hj, hix]⟩]
        exact Or.inr ⟨k2, ak, hkx, rfl, rfl⟩
      · rw [if_neg hj, if_neg (fun q => hj (by have := q.2; omega))]
        exact hf9 j
    · cases hs
  · cases hs

theorem g_alen (hx : p.tables.exec = Jvm.exec) (hb : c.code = cc) (hd : decode cc σ.1 = .ok (.arraylength, 1)) (hs : s_alen q σ = some (Sum.inl σ')) (k : Go p l e R s m args below meth c Q D A adK b Ls xs nL hj c0 s0 ads0 σ') : Go p l e R s m args below meth c Q D A adK b Ls xs nL hj c0 s0 ads0 σ := by
  unfold s_alen pnext at hs
  split at hs
  · rename_i pc L a st lay nx h
    split at hs
    · rename_i hcond
      cases hs
      refine Go.mk (fun ads H locs cells slots ls stv hads hW hL hN hT => ?_)
      obtain ⟨i, addr, vs', rfl, hia, rfl, hT2⟩ := hT.consR hcond.1
      obtain ⟨i2, n9, cA, x9, ty9, t0, hi2, hl, han, ws, tys, e9, h1, h2, h3, h4, h5, h6, h7, h8, h9, hw, he9, hn9, ht9⟩ : ∃ (i2 n9 : Nat) (cA : ClassId) (x9 : vp_A) (ty9 : FieldType) (t0 : Nat), ((i : Int) + 1 = (i2 : Int) + 1) ∧ lay[i2]? = some (ak lay ((i : Int) + 1), n9) ∧ al lay ((i : Int) + 1) = (n9 : Int) ∧ ∃ (ws : va_W) (tys : List (ClassId × FieldType)) (e : va_E), ws.map (fun z => z.1) = ads ∧ va_K D vwCl tys s ∧ va_P D vwCl ws H ∧ va_D A ws ∧ va_S A s.heap H locs ∧ HR tys ws lay h ∧ SCr Ls xs h ∧ c0 + cells = lay.length + nx ∧ s0 + slots = szs lay + 6 * nx ∧ ws[i2]? = some (addr, e) ∧ e = .inl (cA, x9) ∧ x9.1 = n9 ∧ tys[t0]? = some (cA, ty9) := by
        rcases hcond.2.1 with hk9 | hk9 | hk9
        · obtain ⟨i2, n9, hi2, hl, han⟩ := ak_get hk9 hcond.1 (by decide)
          obtain rfl : i2 = i := by omega
          obtain ⟨ws, tys, e9, h1, h2, h3, h4, h5, h6, h7, h8, h9, hw, hC⟩ := hW.find hia hl
          obtain ⟨cA, t0, f9, rfl, ht9, hf9⟩ : CRi _ .int _ _ _ := hC
          exact ⟨i2, n9, cA, _, _, t0, rfl, by rw [hk9]; exact hl, han, ws, tys, _, h1, h2, h3, h4, h5, h6, h7, h8, h9, hw, rfl, rfl, ht9⟩
        · obtain ⟨i2, n9, hi2, hl, han⟩ := ak_get hk9 hcond.1 (by decide)
          obtain rfl : i2 = i := by omega
          obtain ⟨ws, tys, e9, h1, h2, h3, h4, h5, h6, h7, h8, h9, hw, hC⟩ := hW.find hia hl
          obtain ⟨cA, t0, f9, rfl, ht9, hf9⟩ : CRj _ _ _ _ := hC
          exact ⟨i2, n9, cA, _, _, t0, rfl, by rw [hk9]; exact hl, han, ws, tys, _, h1, h2, h3, h4, h5, h6, h7, h8, h9, hw, rfl, rfl, ht9⟩
        · obtain ⟨i2, n9, hi2, hl, han⟩ := ak_get hk9 hcond.1 (by decide)
          obtain rfl : i2 = i := by omega
          obtain ⟨ws, tys, e9, h1, h2, h3, h4, h5, h6, h7, h8, h9, hw, hC⟩ := hW.find hia hl
          obtain ⟨cA, t0, f9, rfl, ht9, hf9⟩ : CRi _ .byte _ _ _ := hC
          exact ⟨i2, n9, cA, _, _, t0, rfl, by rw [hk9]; exact hl, han, ws, tys, _, h1, h2, h3, h4, h5, h6, h7, h8, h9, hw, rfl, rfl, ht9⟩
      subst he9
      refine va_alen hx hb h2 h3 i2 t0 hw ht9 rfl hd ?_
      refine k ads H locs cells slots ls _ hads hW hL hN ⟨⟨_, rfl, ?_⟩, hT2⟩
      rw [hn9, han, Int32.toInt_ofNat']
      exact w32_id (by omega) (by have := hcond.2.2; omega)
    · cases hs
  · cases hs

end G2
