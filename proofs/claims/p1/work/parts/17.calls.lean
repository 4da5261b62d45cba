theorem TRel.app {ads : List Nat} {adK : Nat → Nat} {b : Nat} : ∀ {s1 s2 : List PV} {vs : List Value}, TRel ads adK b (s1 ++ s2) vs → ∃ v1 v2, vs = v1 ++ v2 ∧ TRel ads adK b s1 v1 ∧ TRel ads adK b s2 v2
  | [], s2, vs, h => ⟨[], vs, rfl, trivial, h⟩
  | q :: s1, s2, vs, h => by
    obtain ⟨v, vs', rfl, h1, h2⟩ := TRel.cons (st := s1 ++ s2) h
    obtain ⟨v1, v2, rfl, h3, h4⟩ := TRel.app h2
    exact ⟨v :: v1, v2, rfl, ⟨h1, h3⟩, h4⟩
theorem TRel.cat {ads : List Nat} {adK : Nat → Nat} {b : Nat} : ∀ {s1 s2 : List PV} {v1 v2 : List Value}, TRel ads adK b s1 v1 → TRel ads adK b s2 v2 → TRel ads adK b (s1 ++ s2) (v1 ++ v2)
  | [], s2, v1, v2, h1, h2 => by rw [h1.nil]; exact h2
  | q :: s1, s2, v1, v2, h1, h2 => by
    obtain ⟨v, vs', rfl, h3, h4⟩ := h1.cons
    exact ⟨h3, h4.cat h2⟩
theorem TRel.rev {ads : List Nat} {adK : Nat → Nat} {b : Nat} : ∀ {st : List PV} {vs : List Value}, TRel ads adK b st vs → TRel ads adK b st.reverse vs.reverse
  | [], vs, h => by rw [h.nil]; trivial
  | q :: st, vs, h => by
    obtain ⟨v, vs', rfl, h3, h4⟩ := h.cons
    rw [List.reverse_cons, List.reverse_cons]
    exact h4.rev.cat ⟨h3, trivial⟩
theorem TRel.len {ads : List Nat} {adK : Nat → Nat} {b : Nat} : ∀ {st : List PV} {vs : List Value}, TRel ads adK b st vs → vs.length = st.length
  | [], vs, h => by rw [h.nil]; rfl
  | q :: st, vs, h => by
    obtain ⟨v, vs', rfl, h3, h4⟩ := h.cons
    simp [h4.len]
section C1
variable {p : Program} {l : Launch} {e : Env} {R : Room} {s : State} {m : MethodId} {args : Array Value} {below : List Frame} {meth : Method} {c : Code} {Q : State → Prop} {D : va_G} {A : Nat → Prop} {adK adV : Nat → Nat} {b Ls : Nat} {xs : Nat → Int32} {c0 s0 : Nat} {ads0 : List Nat} {q : PI} {x y : MI}
/-- behind a call: it has returned, or thrown -/
theorem run_cont {nL : Nat} {hj : Bool} {ads : List Nat} {ws : va_W} {H : Heap} {locs : List Loc} {cells slots mc ms : Nat} {ls : Array Slot} {st0 rest : List Value} {pc : Nat} {L : PL} {st' : List PV} {o : PO} {lay lay1 : PY} {nx nx1 : Nat} {h1 : PC} {a : Array Value}
    (hads : ads0 <+: ads) (hw1 : ws.map (fun z => z.1) = ads) (hD : va_D A ws) (hS : va_S A s.heap H locs) (hF : ∀ q, va_A ws H.size q → A q) (hL : LRel ads adK b nL L ls) (hN : NJ hj L) (hT : TRel ads adK b st' rest)
    (hc0 : c0 + cells = lay.length + nx) (hs0 : s0 + slots = szs lay + 6 * nx) (hc1 : lay.length + nx + mc = lay1.length + nx1) (hs1 : szs lay + 6 * nx + ms = szs lay1 + 6 * nx1)
    (hr : vx_Run p l e R s m args below meth c H locs cells slots mc ms (F0 m pc ls st0) rest (QcM D (va_A ws H.size) Ls xs ads lay1 h1 o a) (XcM D (va_A ws H.size) Ls xs ads lay1 h1 o) (va_A ws H.size))
    (kret : ∀ v, o = Sum.inl v → Go p l e R s m args below meth c Q D A adK b Ls xs nL hj c0 s0 ads0 (pc + 3, L, v.toList ++ st', lay1, nx1, h1))
    (kthr : ∀ ex, o = Sum.inr ex → ∀ (ads1 : List Nat) (H1 : Heap) (locs1 : List Loc) (cells1 slots1 : Nat) (ce : Cell) (q9 : Addr), ads0 <+: ads1 → WRel D s A Ls xs c0 s0 ads1 lay1 nx1 h1 H1 locs1 cells1 slots1 → LRel ads1 adK b nL L ls → NJ hj L → H1[q9]? = some ce → ce.vm = .none → s.vm.findClass (exn ex) = some ce.cls → vx_W p l e R s m args below meth c H1 locs1 cells1 slots1 Q (F0 m pc ls rest) q9) :
    W p l e R s m args below meth c H locs cells slots Q (F0 m pc ls st0) := by
  have hw : ∀ {u : WT} {t : State} {H1 : Heap} {locs1 : List Loc}, BWd D (va_A ws H.size) Ls xs ads lay1 h1 u t → t.heap = H1 → s.vm.Alike t.vm → va_S A s.heap H1 locs1 → ads0 <+: u.1.map (fun z => z.1) ∧ ads <+: u.1.map (fun z => z.1) ∧ WRel D s A Ls xs c0 s0 (u.1.map (fun z => z.1)) lay1 nx1 h1 H1 locs1 (cells + mc) (slots + ms) := by
    intro u t H1 locs1 hB ht hvm hS1
    obtain ⟨b1, b2, b3, b4, b5, b6⟩ := hB
    exact ⟨hads.trans b6, b6, u.1, u.2, rfl, va_K.moved hvm.symm b2, by rw [← ht]; exact b1, b3.weaken (fun _ q _ hq => hF q.1 hq), hS1, b4, b5, by omega, by omega⟩
  have hF2 : ∀ q, q < H.size → va_A ws H.size q → A q := fun q _ z => hF q z
  rcases o with o | ex
  · rcases o with _ | (v | v | v)
    · refine vx_callv (SX := WT) (a := a) hr hS hF2 hF hF2 (fun E ce q9 u t H1 locs1 _ _ hpx => hpx.elim) (fun u t H1 locs1 ht hvm hpost hB hz hk hS1 => ?_)
      obtain ⟨w1, w2, w3⟩ := hw hB ht hvm hS1
      exact kret _ rfl _ _ _ _ _ _ _ w1 w3 (hL.up w2) hN (hT.up w2)
    · refine vx_calli (SX := WT) (a := a) hr hS hF2 hF hF2 (fun E ce q9 u t H1 locs1 _ _ hpx => hpx.elim) (fun r u t H1 locs1 ht hvm hpost hB hz hk hS1 => ?_)
      obtain ⟨w1, w2, w3⟩ := hw hB ht hvm hS1
      exact kret _ rfl _ _ _ _ _ _ _ w1 w3 (hL.up w2) hN ⟨⟨r, rfl, hpost⟩, hT.up w2⟩
    · refine vx_calll (SX := WT) (a := a) hr hS hF2 hF hF2 (fun E ce q9 u t H1 locs1 _ _ hpx => hpx.elim) (fun r u t H1 locs1 ht hvm hpost hB hz hk hS1 => ?_)
      obtain ⟨w1, w2, w3⟩ := hw hB ht hvm hS1
      exact kret _ rfl _ _ _ _ _ _ _ w1 w3 (hL.up w2) hN ⟨⟨r, rfl, hpost⟩, hT.up w2⟩
    · exact vx_callv (SX := WT) (a := a) hr hS hF2 hF hF2 (fun E ce q9 u t H1 locs1 _ _ hpx => hpx.elim) (fun u t H1 locs1 ht hvm hpost hB hz hk hS1 => hpost.elim)
  · refine vx_callv (SX := WT) (a := a) hr hS hF2 hF hF2 (fun E ce q9 u t H1 locs1 ht hvm hpx hB hz hk hS1 g1 g2 g3 => ?_) (fun u t H1 locs1 ht hvm hpost hB hz hk hS1 => hpost.elim)
    obtain ⟨rfl, hB⟩ := hB
    obtain ⟨w1, w2, w3⟩ := hw hB ht hvm hS1
    exact kthr _ rfl _ _ _ _ _ ce q9 w1 w3 (hL.up w2) hN g1 g2 g3
/-- what a call gives: its contract, whatever the world -/
def Ctr (l : Launch) (D : va_G) (adK adV : Nat → Nat) (b Ls : Nat) (xs : Nat → Int32) (y : MI) (cargs : List PV) (lay : PY) (h : PC) (mc ms : Nat) (o : PO) (lay1 : PY) (h1 : PC) : Prop :=
  ∀ (ws : va_W) (tys : List (ClassId × FieldType)) (vs : List Value) (sz : Nat), HR tys ws lay h → SCr Ls xs h → TRel (ws.map (fun z => z.1)) adK b cargs vs → MetM l D adK adV b Ls xs y ws tys vs sz mc ms lay1 h1 o
theorem goodM {ws' : List Cond} (hw : ∀ w ∈ ws', w ∈ GT) (hm : (if y.2.2.2.2.1 = [] then Cond.code y.1 y.2.1 y.2.2.1 y.2.2.2.1 else Cond.codeWith y.1 y.2.1 y.2.2.1 y.2.2.2.1 y.2.2.2.2.1) ∈ GT) : GoodIn GT (ws' ++ wsM y) := GT_good (fun w h => (List.mem_append.mp h).elim (hw w) (fun h => (List.mem_cons.mp h).elim (fun e => by rw [e]; exact hm) id))
/-- the caller's thrown case -/
def KThr (p : Program) (l : Launch) (e : Env) (R : Room) (s : State) (m : MethodId) (args : Array Value) (below : List Frame) (meth : Method) (c : Code) (Q : State → Prop) (D : va_G) (A : Nat → Prop) (adK : Nat → Nat) (b Ls : Nat) (xs : Nat → Int32) (nL : Nat) (hj : Bool) (c0 s0 : Nat) (ads0 : List Nat) (pc : Nat) (L : PL) (lay1 : PY) (nx1 : Nat) (h1 : PC) (ex : Nat) : Prop :=
  ∀ (ads1 : List Nat) (H1 : Heap) (locs1 : List Loc) (cells1 slots1 : Nat) (ce : Cell) (q9 : Addr) (ls : Array Slot) (rest : List Value), ads0 <+: ads1 → WRel D s A Ls xs c0 s0 ads1 lay1 nx1 h1 H1 locs1 cells1 slots1 → LRel ads1 adK b nL L ls → NJ hj L → H1[q9]? = some ce → ce.vm = .none → s.vm.findClass (exn ex) = some ce.cls → vx_W p l e R s m args below meth c H1 locs1 cells1 slots1 Q (F0 m pc ls rest) q9
theorem call_V (C : CX p l R s m args meth c A adK adV b Ls xs x) {σ : PS} {mj pc' : Nat} {cargs st' : List PV} {o : PO} {lay1 : PY} {nx1 : Nat} {h1 : PC} (hc : c_ivV x σ.1 q = true) (hs : s_ivV q σ = some (Sum.inr (Sum.inl (mj, cargs, pc', st')))) (hy : mtab[mj]? = some y)
    {mc ms : Nat} (hctr : Ctr l D adK adV b Ls xs y cargs σ.2.2.2.1 σ.2.2.2.2.2 mc ms o lay1 h1) (hc1 : σ.2.2.2.1.length + σ.2.2.2.2.1 + mc = lay1.length + nx1) (hs1 : szs σ.2.2.2.1 + 6 * σ.2.2.2.2.1 + ms = szs lay1 + 6 * nx1) (hb1 : lay1.length + nx1 ≤ c0 + R.cells) (hb2 : szs lay1 + 6 * nx1 ≤ s0 + R.slots)
    (kret : ∀ v, o = Sum.inl v → Go p l e R s m args below meth c Q D A adK b Ls xs x.2.2.1 x.2.2.2.2.2.2 c0 s0 ads0 (pc', σ.2.1, v.toList ++ st', lay1, nx1, h1))
    (kthr : ∀ ex, o = Sum.inr ex → KThr p l e R s m args below meth c Q D A adK b Ls xs x.2.2.1 x.2.2.2.2.2.2 c0 s0 ads0 σ.1 σ.2.1 lay1 nx1 h1 ex) :
    Go p l e R s m args below meth c Q D A adK b Ls xs x.2.2.1 x.2.2.2.2.2.2 c0 s0 ads0 σ := by
  obtain ⟨pc, L, st, lay, nx, h⟩ := σ
  simp only [s_ivV] at hs
  split at hs
  · rename_i a As hrev
    split at hs
    · rename_i hcond
      obtain ⟨hn1, hn2, ha, hkd⟩ := hcond
      cases hs
      simp only [c_ivV, Bool.and_eq_true, decide_eq_true_eq] at hc
      obtain ⟨hd, hc⟩ := hc
      rw [hy] at hc
      split at hc
      · rename_i y2 w2 hy2 hw2
        cases hy2
        simp only [Bool.and_eq_true, decide_eq_true_eq] at hc
        obtain ⟨⟨m1, m2, m3⟩, hcode, hini, hdep, hmax, hn0, hhh, hlk, hin, hsel, hcls⟩ := hc
        refine Go.mk (fun ads H locs cells slots ls stv hads hW hL hN hT => ?_)
        obtain ⟨ws, tys, g1, g2, g3, g4, g5, g6, g7, g8, g9⟩ := id hW
        rw [← List.take_append_drop q.2.2.1 st] at hT
        obtain ⟨va, vb, rfl, hTa, hTb⟩ := hT.app
        have hTr := hTa.rev
        rw [hrev] at hTr
        obtain ⟨i, addr, vs', hvr, hia, hai, hTs⟩ := hTr.consR ha
        obtain ⟨i2, hi2, hl⟩ := kd_get hkd ha (by decide)
        obtain rfl : i2 = i := by omega
        obtain ⟨a2, e2, q1, q2⟩ := g6.2 i2 _ hl
        obtain rfl : a2 = addr := by
          have q3 : ads[i2]? = some a2 := by rw [← g1, List.getElem?_map, q1]; rfl
          exact (Option.some.inj (hia.symm.trans q3)).symm
        obtain ⟨fs, rfl, -, -, -⟩ : CRo _ _ _ _ _ := q2
        have hva : va = vs'.reverse ++ [.ref a2] := by rw [← List.reverse_reverse va, hvr, List.reverse_cons]
        have hF : ∀ q, va_A ws H.size q → A q := fun q hq => hq.elim (fun ⟨k, e, hk⟩ => g4.2 k (q, e) hk) (fun hq => C.2.2.2.2.1 q (Nat.le_trans g5.1 hq))
        have hM := hctr ws tys (.ref a2 :: vs') H.size g6 g7 (by rw [g1, ← hvr, ← hrev]; exact hTa.rev)
        have hlen : vs'.length = q.2.2.1 - 1 := by
          have e1 := hTs.len
          have e2 := congrArg List.length hrev
          simp at e2
          omega
        obtain ⟨r9, hr9, hr8⟩ : ∃ r : vw_C, vwCl[pcls.getD q.2.1 99]? = some r ∧ r.1 = y.1.cls := by
          cases hz : vwCl[pcls.getD q.2.1 99]? with
          | none => rw [hz] at hcls; cases hcls
          | some r => rw [hz] at hcls; exact ⟨r, rfl, Option.some.inj hcls⟩
        have hcode2 : (if y.2.2.2.2.1 = [] then Cond.code y.1 y.2.1 y.2.2.1 y.2.2.2.1 else Cond.codeWith y.1 y.2.1 y.2.2.1 y.2.2.2.1 y.2.2.2.2.1) ∈ GT := by rw [if_pos hhh]; exact gw_in hcode
        have hwsM : wsM y = Cond.code y.1 y.2.1 y.2.2.1 y.2.2.2.1 :: GT := by unfold wsM; rw [if_pos hhh]
        have hrecv := va_recv g2 g3 hr9 q1
        rw [hr8] at hrecv
        dsimp only at hc1 hs1 hd hlk
        refine run_cont (a := (Value.ref a2 :: vs').toArray) hads g1 g4 g5 hF hL hN hTb g8 g9 hc1 hs1 (o := o) ?_ kret (fun ex he ads1 H1 locs1 cells1 slots1 ce q9 w1 w2 w3 w4 w5 w6 w7 => kthr ex he ads1 H1 locs1 cells1 slots1 ce q9 ls vb w1 w2 w3 w4 w5 w6 w7)
        rw [← g1]
        refine vx_runV (As := vs') (rest := vb) ⟨C.1.1, C.1.2.1, C.1.2.2.2.1, C.1.2.2.2.2, C.2.1.1⟩ hM
          (cwV (q.2.2.1 - 1) C.2.1.1 (goodM (ws' := [.methodLink x.1.cls q.2.2.2.2.toNat y.1, .instanceMethod y.1, .selects y.1.cls y.1 y.1, .initialized y.1.cls]) (fun w hw => ?_) hcode2) hwsM rfl rfl ⟨rfl, m1, m2, m3⟩ ⟨?_, ?_⟩)
          ⟨PcM.blind, hrecv, fun U hU hWU => ⟨rfl, by rw [hU], by rw [hU]; exact g3, va_K.moved hWU.alike g2, g4.weaken (fun _ _ _ _ => trivial), EnvR.call C.2.2.2.2.2.1 g5 hF hWU hU⟩⟩ rfl hlen hL.2.choose_spec.1.1 (by rw [hva]; simp) (lv_room (by rw [hTb.cats]; exact hn2)) hd ⟨by omega, by omega⟩
        · simp only [List.mem_cons, List.not_mem_nil, or_false] at hw
          rcases hw with rfl | rfl | rfl | rfl
          · exact gw_in hlk
          · exact gw_in hin
          · exact gw_in hsel
          · exact gw_in hini
        · show y.2.2.2.2.2.1 + 1 ≤ R.frames
          have := C.2.2.1; omega
        · show 8 + (y.2.2.1 + 11) + 41 * y.2.2.2.2.2.1 ≤ R.locals
          have := C.2.2.2.1; omega
      · cases hc
    · cases hs
  · cases hs
theorem call_S (C : CX p l R s m args meth c A adK adV b Ls xs x) {σ : PS} {mj pc' : Nat} {cargs st' : List PV} {o : PO} {lay1 : PY} {nx1 : Nat} {h1 : PC} (hc : c_ivS x σ.1 q = true) (hs : s_ivS q σ = some (Sum.inr (Sum.inl (mj, cargs, pc', st')))) (hy : mtab[mj]? = some y)
    {mc ms : Nat} (hctr : Ctr l D adK adV b Ls xs y cargs σ.2.2.2.1 σ.2.2.2.2.2 mc ms o lay1 h1) (hc1 : σ.2.2.2.1.length + σ.2.2.2.2.1 + mc = lay1.length + nx1) (hs1 : szs σ.2.2.2.1 + 6 * σ.2.2.2.2.1 + ms = szs lay1 + 6 * nx1) (hb1 : lay1.length + nx1 ≤ c0 + R.cells) (hb2 : szs lay1 + 6 * nx1 ≤ s0 + R.slots)
    (kret : ∀ v, o = Sum.inl v → Go p l e R s m args below meth c Q D A adK b Ls xs x.2.2.1 x.2.2.2.2.2.2 c0 s0 ads0 (pc', σ.2.1, v.toList ++ st', lay1, nx1, h1))
    (kthr : ∀ ex, o = Sum.inr ex → KThr p l e R s m args below meth c Q D A adK b Ls xs x.2.2.1 x.2.2.2.2.2.2 c0 s0 ads0 σ.1 σ.2.1 lay1 nx1 h1 ex) :
    Go p l e R s m args below meth c Q D A adK b Ls xs x.2.2.1 x.2.2.2.2.2.2 c0 s0 ads0 σ := by
  obtain ⟨pc, L, st, lay, nx, h⟩ := σ
  simp only [s_ivS] at hs
  split at hs
  · rename_i hcond
    obtain ⟨hn1, hn2⟩ := hcond
    cases hs
    simp only [c_ivS, Bool.and_eq_true, decide_eq_true_eq] at hc
    obtain ⟨hd, hc⟩ := hc
    rw [hy] at hc
    split at hc
    · rename_i y2 w2 hy2 hw2
      cases hy2
      simp only [Bool.and_eq_true, decide_eq_true_eq] at hc
      obtain ⟨⟨m1, m2, m3⟩, hcode, hini, hdep, hmax, hlk, hst9⟩ := hc
      refine Go.mk (fun ads H locs cells slots ls stv hads hW hL hN hT => ?_)
      obtain ⟨ws, tys, g1, g2, g3, g4, g5, g6, g7, g8, g9⟩ := id hW
      rw [← List.take_append_drop q.2.2.1 st] at hT
      obtain ⟨va, vb, rfl, hTa, hTb⟩ := hT.app
      have hF : ∀ q, va_A ws H.size q → A q := fun q hq => hq.elim (fun ⟨k, e, hk⟩ => g4.2 k (q, e) hk) (fun hq => C.2.2.2.2.1 q (Nat.le_trans g5.1 hq))
      have hM := hctr ws tys va.reverse H.size g6 g7 (by rw [g1]; exact hTa.rev)
      dsimp only at hc1 hs1 hd hlk
      have hlen : va.reverse.length = q.2.2.1 := by
        rw [List.length_reverse, hTa.len, List.length_take]; omega
      refine run_cont (a := va.reverse.toArray) hads g1 g4 g5 hF hL hN hTb g8 g9 hc1 hs1 (o := o) ?_ kret (fun ex he ads1 H1 locs1 cells1 slots1 ce q9 w1 w2 w3 w4 w5 w6 w7 => kthr ex he ads1 H1 locs1 cells1 slots1 ce q9 ls vb w1 w2 w3 w4 w5 w6 w7)
      rw [← g1]
      by_cases hhh : y.2.2.2.2.1 = []
      · rw [if_pos hhh] at hcode
        have hcode2 : (if y.2.2.2.2.1 = [] then Cond.code y.1 y.2.1 y.2.2.1 y.2.2.2.1 else Cond.codeWith y.1 y.2.1 y.2.2.1 y.2.2.2.1 y.2.2.2.2.1) ∈ GT := by rw [if_pos hhh]; exact gw_in hcode
        have hwsM : wsM y = Cond.code y.1 y.2.1 y.2.2.1 y.2.2.2.1 :: GT := by unfold wsM; rw [if_pos hhh]
        refine vx_runS (As := va.reverse) (rest := vb) ⟨C.1.1, C.1.2.1, C.1.2.2.2.1, C.1.2.2.2.2, C.2.1.1⟩ hM
          (va_cwS q.2.2.1 C.2.1.1 (goodM (ws' := [.methodLink x.1.cls q.2.2.2.2.toNat y.1, .static y.1, .initialized y.1.cls]) (fun w hw => ?_) hcode2) hwsM rfl rfl ⟨m1, m2, m3⟩ ⟨?_, ?_⟩)
          ⟨PcM.blind, fun U hU hWU => ⟨rfl, by rw [hU], by rw [hU]; exact g3, va_K.moved hWU.alike g2, g4.weaken (fun _ _ _ _ => trivial), EnvR.call C.2.2.2.2.2.1 g5 hF hWU hU⟩⟩ rfl hlen hL.2.choose_spec.1.1 (by simp) (lv_room (by rw [hTb.cats]; exact hn2)) hd ⟨by omega, by omega⟩
        · simp only [List.mem_cons, List.not_mem_nil, or_false] at hw
          rcases hw with rfl | rfl | rfl
          · exact gw_in hlk
          · exact gw_in hst9
          · exact gw_in hini
        · show y.2.2.2.2.2.1 + 1 ≤ R.frames
          have := C.2.2.1; omega
        · show 8 + (y.2.2.1 + 11) + 41 * y.2.2.2.2.2.1 ≤ R.locals
          have := C.2.2.2.1; omega
      · rw [if_neg hhh] at hcode
        have hcode2 : (if y.2.2.2.2.1 = [] then Cond.code y.1 y.2.1 y.2.2.1 y.2.2.2.1 else Cond.codeWith y.1 y.2.1 y.2.2.1 y.2.2.2.1 y.2.2.2.2.1) ∈ GT := by rw [if_neg hhh]; exact gw_in hcode
        have hwsM : wsM y = Cond.codeWith y.1 y.2.1 y.2.2.1 y.2.2.2.1 y.2.2.2.2.1 :: GT := by unfold wsM; rw [if_neg hhh]
        refine vx_runSX (As := va.reverse) (rest := vb) ⟨C.1.1, C.1.2.1, C.1.2.2.2.1, C.1.2.2.2.2, C.2.1.1⟩ hM
          (vx_cwSW q.2.2.1 C.2.1.1 (goodM (ws' := [.methodLink x.1.cls q.2.2.2.2.toNat y.1, .static y.1, .initialized y.1.cls]) (fun w hw => ?_) hcode2) hwsM rfl rfl ⟨m1, m2, m3⟩ ⟨?_, ?_⟩)
          ⟨PcM.blind, fun U hU hWU => ⟨rfl, by rw [hU], by rw [hU]; exact g3, va_K.moved hWU.alike g2, g4.weaken (fun _ _ _ _ => trivial), EnvR.call C.2.2.2.2.2.1 g5 hF hWU hU⟩⟩ rfl hlen hL.2.choose_spec.1.1 (by simp) (lv_room (by rw [hTb.cats]; exact hn2)) hd ⟨by omega, by omega⟩
        · simp only [List.mem_cons, List.not_mem_nil, or_false] at hw
          rcases hw with rfl | rfl | rfl
          · exact gw_in hlk
          · exact gw_in hst9
          · exact gw_in hini
        · show y.2.2.2.2.2.1 + 1 ≤ R.frames
          have := C.2.2.1; omega
        · show 8 + (y.2.2.1 + 11) + 41 * y.2.2.2.2.2.1 ≤ R.locals
          have := C.2.2.2.1; omega
    · cases hc
  · cases hs
theorem call_I (C : CX p l R s m args meth c A adK adV b Ls xs x) {σ : PS} {mj pc' : Nat} {cargs st' : List PV} {o : PO} {lay1 : PY} {nx1 : Nat} {h1 : PC} (hc : c_ivI x σ.1 q = true) (hs : s_ivI q σ = some (Sum.inr (Sum.inl (mj, cargs, pc', st')))) (hy : mtab[mj]? = some y)
    {mc ms : Nat} (hctr : Ctr l D adK adV b Ls xs y cargs σ.2.2.2.1 σ.2.2.2.2.2 mc ms o lay1 h1) (hc1 : σ.2.2.2.1.length + σ.2.2.2.2.1 + mc = lay1.length + nx1) (hs1 : szs σ.2.2.2.1 + 6 * σ.2.2.2.2.1 + ms = szs lay1 + 6 * nx1) (hb1 : lay1.length + nx1 ≤ c0 + R.cells) (hb2 : szs lay1 + 6 * nx1 ≤ s0 + R.slots)
    (kret : ∀ v, o = Sum.inl v → Go p l e R s m args below meth c Q D A adK b Ls xs x.2.2.1 x.2.2.2.2.2.2 c0 s0 ads0 (pc', σ.2.1, v.toList ++ st', lay1, nx1, h1))
    (ho : o = Sum.inl none) (href : ∀ (ads : List Nat) (va : List Value), TRel ads adK b (σ.2.2.1.take q.2.2.1) va → ∀ (v0 : Value) (vs' : List Value), va.reverse = v0 :: vs' → ∃ a, v0 = .ref a) :
    Go p l e R s m args below meth c Q D A adK b Ls xs x.2.2.1 x.2.2.2.2.2.2 c0 s0 ads0 σ := by
  obtain ⟨pc, L, st, lay, nx, h⟩ := σ
  simp only [s_ivI] at hs
  split at hs
  · rename_i a0 As0 hrev0
    split at hs
    · rename_i hcond
      obtain ⟨hn1, hn2⟩ := hcond
      cases hs
      simp only [c_ivI, Bool.and_eq_true, decide_eq_true_eq] at hc
      obtain ⟨hd, hc⟩ := hc
      rw [hy] at hc
      split at hc
      · rename_i y2 w2 hy2 hw2
        cases hy2
        simp only [Bool.and_eq_true, decide_eq_true_eq] at hc
        obtain ⟨⟨m1, m2, m3⟩, hcode, hini, hdep, hmax, hn0, hhh, hlk, hin, hnm, hret, hpi⟩ := hc
        refine Go.mk (fun ads H locs cells slots ls stv hads hW hL hN hT => ?_)
        obtain ⟨ws, tys, g1, g2, g3, g4, g5, g6, g7, g8, g9⟩ := id hW
        rw [← List.take_append_drop q.2.2.1 st] at hT
        obtain ⟨va, vb, rfl, hTa, hTb⟩ := hT.app
        have hF : ∀ q, va_A ws H.size q → A q := fun q hq => hq.elim (fun ⟨k, e, hk⟩ => g4.2 k (q, e) hk) (fun hq => C.2.2.2.2.1 q (Nat.le_trans g5.1 hq))
        have hM := hctr ws tys va.reverse H.size g6 g7 (by rw [g1, ← hrev0]; exact hTa.rev)
        dsimp only at hc1 hs1 hd hlk
        have hTr := hTa.rev
        have hlen0 : va.length = q.2.2.1 := by rw [hTa.len, List.length_take]; omega
        obtain ⟨v0, vs', hvr⟩ : ∃ v0 vs', va.reverse = v0 :: vs' := by
          cases hz : va.reverse with
          | nil => have := congrArg List.length hz; simp at this; rw [this] at hlen0; simp at hlen0; omega
          | cons v0 vs' => exact ⟨v0, vs', rfl⟩
        have hva : va = vs'.reverse ++ [v0] := by rw [← List.reverse_reverse va, hvr, List.reverse_cons]
        have hlen : vs'.length = q.2.2.1 - 1 := by
          have := congrArg List.length hvr
          simp at this; omega
        obtain ⟨addr, rfl⟩ : ∃ a, v0 = .ref a := href ads va hTa v0 vs' hvr
        have hcode2 : (if y.2.2.2.2.1 = [] then Cond.code y.1 y.2.1 y.2.2.1 y.2.2.2.1 else Cond.codeWith y.1 y.2.1 y.2.2.1 y.2.2.2.1 y.2.2.2.2.1) ∈ GT := by rw [if_pos hhh]; exact gw_in hcode
        have hwsM : wsM y = Cond.code y.1 y.2.1 y.2.2.1 y.2.2.2.1 :: GT := by unfold wsM; rw [if_pos hhh]
        rw [hvr] at hM
        subst ho
        have hM2 : Met l y.1 (wsM y) (rmM y mc ms) _ _ mc ms (va_A ws H.size) := met_of_vx hM
        have hw : ∀ {u : WT} {t : State} {H1 : Heap} {locs1 : List Loc}, BWd D (va_A ws H.size) Ls xs (ws.map (fun z => z.1)) lay1 h1 u t → t.heap = H1 → s.vm.Alike t.vm → va_S A s.heap H1 locs1 → ads0 <+: u.1.map (fun z => z.1) ∧ ads <+: u.1.map (fun z => z.1) ∧ WRel D s A Ls xs c0 s0 (u.1.map (fun z => z.1)) lay1 nx1 h1 H1 locs1 (cells + mc) (slots + ms) := by
          intro u t H1 locs1 hB ht hvm hS1
          obtain ⟨b1, b2, b3, b4, b5, b6⟩ := hB
          rw [g1] at b6
          exact ⟨hads.trans b6, b6, u.1, u.2, rfl, va_K.moved hvm.symm b2, by rw [← ht]; exact b1, b3.weaken (fun _ q _ hq => hF q.1 hq), hS1, b4, b5, by omega, by omega⟩
        have hF2 : ∀ q, q < H.size → va_A ws H.size q → A q := fun q _ z => hF q z
        refine va_callv (va_runI (As := vs') (rest := vb) ⟨C.1.1, C.1.2.1, C.1.2.2.2.1, C.1.2.2.2.2, C.2.1.1⟩ hM2
            (by rw [hret] at hwsM; exact cwI (q.2.2.1 - 1) C.2.1.1 (by rw [hwsM]; exact GT_good (fun w h => (List.mem_cons.mp h).elim (fun e => by rw [e]; rw [← hret]; exact gw_in hcode) id)) hwsM rfl rfl (C.gw hini) (C.gw hlk) (C.gw hin) hnm ⟨m1, m2, m3⟩ ⟨by show y.2.2.2.2.2.1 + 1 ≤ R.frames; have := C.2.2.1; omega, by show 8 + (y.2.2.1 + 11) + 41 * y.2.2.2.2.2.1 ≤ R.locals; have := C.2.2.2.1; omega⟩)
            ⟨PcM.blind, fun U hU hWU => ⟨rfl, by rw [hU], by rw [hU]; exact g3, va_K.moved hWU.alike g2, g4.weaken (fun _ _ _ _ => trivial), EnvR.call C.2.2.2.2.2.1 g5 hF hWU hU⟩⟩ rfl hlen hL.2.choose_spec.1.1 (by rw [hva]; simp) (lv_room (by rw [hTb.cats]; exact hn2)) hd ⟨by omega, by omega⟩) g5 hF2 hF (fun u t H1 locs1 ht hvm hpost hB hz hk hS1 => ?_)
        obtain ⟨w1, w2, w3⟩ := hw hB ht hvm hS1
        exact kret _ rfl _ _ _ _ _ _ _ w1 w3 (hL.up w2) hN (hTb.up w2)
      · cases hc
    · cases hs
  · cases hs
theorem call_N (C : CX p l R s m args meth c A adK adV b Ls xs x) {σ : PS} {mj pc' : Nat} {cargs st' : List PV} {o : PO} {lay1 : PY} {nx1 : Nat} {h1 : PC} (hc : c_ivN x σ.1 q = true) (hs : s_ivN q σ = some (Sum.inr (Sum.inl (mj, cargs, pc', st')))) (hy : mtab[mj]? = some y)
    {mc ms : Nat} (hctr : Ctr l D adK adV b Ls xs y cargs σ.2.2.2.1 σ.2.2.2.2.2 mc ms o lay1 h1) (hc1 : σ.2.2.2.1.length + σ.2.2.2.2.1 + mc = lay1.length + nx1) (hs1 : szs σ.2.2.2.1 + 6 * σ.2.2.2.2.1 + ms = szs lay1 + 6 * nx1) (hb1 : lay1.length + nx1 ≤ c0 + R.cells) (hb2 : szs lay1 + 6 * nx1 ≤ s0 + R.slots)
    (kret : ∀ v, o = Sum.inl v → Go p l e R s m args below meth c Q D A adK b Ls xs x.2.2.1 x.2.2.2.2.2.2 c0 s0 ads0 (pc', σ.2.1, v.toList ++ st', lay1, nx1, h1))
    (ho : o = Sum.inl none) (href : ∀ (ads : List Nat) (va : List Value), TRel ads adK b (σ.2.2.1.take q.2.2.1) va → ∀ (v0 : Value) (vs' : List Value), va.reverse = v0 :: vs' → ∃ a, v0 = .ref a) :
    Go p l e R s m args below meth c Q D A adK b Ls xs x.2.2.1 x.2.2.2.2.2.2 c0 s0 ads0 σ := by
  obtain ⟨pc, L, st, lay, nx, h⟩ := σ
  simp only [s_ivN] at hs
  split at hs
  · rename_i a0 As0 hrev0
    split at hs
    · rename_i hcond
      obtain ⟨hn1, hn2⟩ := hcond
      cases hs
      simp only [c_ivN, Bool.and_eq_true, decide_eq_true_eq] at hc
      obtain ⟨hd, hc⟩ := hc
      rw [hy] at hc
      split at hc
      · rename_i y2 w2 hy2 hw2
        cases hy2
        simp only [Bool.and_eq_true, decide_eq_true_eq] at hc
        obtain ⟨⟨m1, m2, m3⟩, hcode, hini, hdep, hmax, hn0, hhh, hlk, hin, hnm, hret, hpi⟩ := hc
        refine Go.mk (fun ads H locs cells slots ls stv hads hW hL hN hT => ?_)
        obtain ⟨ws, tys, g1, g2, g3, g4, g5, g6, g7, g8, g9⟩ := id hW
        rw [← List.take_append_drop q.2.2.1 st] at hT
        obtain ⟨va, vb, rfl, hTa, hTb⟩ := hT.app
        have hF : ∀ q, va_A ws H.size q → A q := fun q hq => hq.elim (fun ⟨k, e, hk⟩ => g4.2 k (q, e) hk) (fun hq => C.2.2.2.2.1 q (Nat.le_trans g5.1 hq))
        have hM := hctr ws tys va.reverse H.size g6 g7 (by rw [g1, ← hrev0]; exact hTa.rev)
        dsimp only at hc1 hs1 hd hlk
        have hTr := hTa.rev
        have hlen0 : va.length = q.2.2.1 := by rw [hTa.len, List.length_take]; omega
        obtain ⟨v0, vs', hvr⟩ : ∃ v0 vs', va.reverse = v0 :: vs' := by
          cases hz : va.reverse with
          | nil => have := congrArg List.length hz; simp at this; rw [this] at hlen0; simp at hlen0; omega
          | cons v0 vs' => exact ⟨v0, vs', rfl⟩
        have hva : va = vs'.reverse ++ [v0] := by rw [← List.reverse_reverse va, hvr, List.reverse_cons]
        have hlen : vs'.length = q.2.2.1 - 1 := by
          have := congrArg List.length hvr
          simp at this; omega
        obtain ⟨addr, rfl⟩ : ∃ a, v0 = .ref a := href ads va hTa v0 vs' hvr
        have hcode2 : (if y.2.2.2.2.1 = [] then Cond.code y.1 y.2.1 y.2.2.1 y.2.2.2.1 else Cond.codeWith y.1 y.2.1 y.2.2.1 y.2.2.2.1 y.2.2.2.2.1) ∈ GT := by rw [if_pos hhh]; exact gw_in hcode
        have hwsM : wsM y = Cond.code y.1 y.2.1 y.2.2.1 y.2.2.2.1 :: GT := by unfold wsM; rw [if_pos hhh]
        rw [hvr] at hM
        subst ho
        have hM2 : Met l y.1 (wsM y) (rmM y mc ms) _ _ mc ms (va_A ws H.size) := met_of_vx hM
        have hw : ∀ {u : WT} {t : State} {H1 : Heap} {locs1 : List Loc}, BWd D (va_A ws H.size) Ls xs (ws.map (fun z => z.1)) lay1 h1 u t → t.heap = H1 → s.vm.Alike t.vm → va_S A s.heap H1 locs1 → ads0 <+: u.1.map (fun z => z.1) ∧ ads <+: u.1.map (fun z => z.1) ∧ WRel D s A Ls xs c0 s0 (u.1.map (fun z => z.1)) lay1 nx1 h1 H1 locs1 (cells + mc) (slots + ms) := by
          intro u t H1 locs1 hB ht hvm hS1
          obtain ⟨b1, b2, b3, b4, b5, b6⟩ := hB
          rw [g1] at b6
          exact ⟨hads.trans b6, b6, u.1, u.2, rfl, va_K.moved hvm.symm b2, by rw [← ht]; exact b1, b3.weaken (fun _ q _ hq => hF q.1 hq), hS1, b4, b5, by omega, by omega⟩
        have hF2 : ∀ q, q < H.size → va_A ws H.size q → A q := fun q _ z => hF q z
        refine va_callv (va_runIN (As := vs') (rest := vb) ⟨C.1.1, C.1.2.1, C.1.2.2.2.1, C.1.2.2.2.2, C.2.1.1⟩ hM2
            (by rw [hret] at hwsM; exact ⟨va_cnB (q.2.2.1 - 1) C.2.1.1 (by rw [hwsM]; exact GT_good (fun w h => (List.mem_cons.mp h).elim (fun e => by rw [e]; rw [← hret]; exact gw_in hcode) id)) hwsM rfl rfl (C.2.2.2.2.2.1.2.2.2.1 _ hlk) (C.gw hini) ⟨m1, m2, m3⟩ ⟨by show y.2.2.2.2.2.1 + 1 ≤ R.frames; have := C.2.2.1; omega, by show 8 + (y.2.2.1 + 11) + 41 * y.2.2.2.2.2.1 ≤ R.locals; have := C.2.2.2.1; omega⟩, hnm, C.gw hin⟩)
            ⟨PcM.blind, fun U hU hWU => ⟨rfl, by rw [hU], by rw [hU]; exact g3, va_K.moved hWU.alike g2, g4.weaken (fun _ _ _ _ => trivial), EnvR.call C.2.2.2.2.2.1 g5 hF hWU hU⟩⟩ rfl hlen hL.2.choose_spec.1.1 (by rw [hva]; simp) (lv_room (by rw [hTb.cats]; exact hn2)) hd ⟨by omega, by omega⟩) g5 hF2 hF (fun u t H1 locs1 ht hvm hpost hB hz hk hS1 => ?_)
        obtain ⟨w1, w2, w3⟩ := hw hB ht hvm hS1
        exact kret _ rfl _ _ _ _ _ _ _ w1 w3 (hL.up w2) hN (hTb.up w2)
      · cases hc
    · cases hs
  · cases hs
end C1
