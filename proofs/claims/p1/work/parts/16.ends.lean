section R1
variable {p : Program} {l : Launch} {e : Env} {R : Room} {s : State} {m : MethodId} {args : Array Value} {below : List Frame} {meth : Method} {c : Code} {D : va_G} {A : Nat → Prop} {adK adV : Nat → Nat} {b Ls : Nat} {xs : Nat → Int32} {c0 s0 mc ms : Nat} {ads0 : List Nat} {q : PI} {σ : PS} {x : MI} {o : PO}
/-- the ends of a body: it returns -/
theorem r_iret (C : CX p l R s m args meth c A adK adV b Ls xs x) (hc : c_iret x σ.1 q = true) (hs : s_iret q σ = some (Sum.inr (Sum.inr o))) (h1 : c0 + mc = σ.2.2.2.1.length + σ.2.2.2.2.1) (h2 : s0 + ms = szs σ.2.2.2.1 + 6 * σ.2.2.2.2.1) :
    Go p l e R s m args below meth c (vx_MQ below (QcM D A Ls xs ads0 σ.2.2.2.1 σ.2.2.2.2.2 o) (XcM D A Ls xs ads0 σ.2.2.2.1 σ.2.2.2.2.2 o) args s mc ms A) D A adK b Ls xs x.2.2.1 x.2.2.2.2.2.2 c0 s0 ads0 σ := by
  simp only [c_iret, Bool.and_eq_true, decide_eq_true_eq] at hc
  unfold s_iret at hs
  split at hs
  · rename_i pc L x9 lay nx h
    cases hs
    refine Go.mk (fun ads H locs cells slots ls stv hads hW hL hN hT => ?_)
    obtain ⟨y', vs1, rfl, hy, hT⟩ := hT.consI
    obtain rfl := hT.nil
    obtain ⟨ws, tys, g1, g2, g3, g4, g5, g6, g7, g8, g9⟩ := hW
    have hlocks := C.2.1.2.1
    obtain rfl : cells = mc := by dsimp only at h1; omega
    obtain rfl : slots = ms := by dsimp only at h2; omega
    refine vx_ret (W.iret C.1.1 C.1.2.1 (C.1.2.2.1.trans hc.2) (fun t ht hWt => ?_) g5.2.2 hc.1)
    exact ⟨⟨y', (ws, tys), rfl, hy, by rw [ht]; exact g3, g2.moved hWt.alike, g4, g6, g7, by rw [g1]; exact hads⟩, g5.F ht⟩
  · cases hs
theorem r_zret (C : CX p l R s m args meth c A adK adV b Ls xs x) (hc : c_zret x σ.1 q = true) (hs : s_zret q σ = some (Sum.inr (Sum.inr o))) (h1 : c0 + mc = σ.2.2.2.1.length + σ.2.2.2.2.1) (h2 : s0 + ms = szs σ.2.2.2.1 + 6 * σ.2.2.2.2.1) :
    Go p l e R s m args below meth c (vx_MQ below (QcM D A Ls xs ads0 σ.2.2.2.1 σ.2.2.2.2.2 o) (XcM D A Ls xs ads0 σ.2.2.2.1 σ.2.2.2.2.2 o) args s mc ms A) D A adK b Ls xs x.2.2.1 x.2.2.2.2.2.2 c0 s0 ads0 σ := by
  simp only [c_zret, Bool.and_eq_true, decide_eq_true_eq] at hc
  unfold s_zret at hs
  split at hs
  · rename_i pc L x9 lay nx h
    split at hs
    · rename_i hcond
      cases hs
      refine Go.mk (fun ads H locs cells slots ls stv hads hW hL hN hT => ?_)
      obtain ⟨y', vs1, rfl, hy, hT⟩ := hT.consI
      obtain rfl := hT.nil
      obtain ⟨ws, tys, g1, g2, g3, g4, g5, g6, g7, g8, g9⟩ := hW
      have hlocks := C.2.1.2.1
      obtain rfl : cells = mc := by dsimp only at h1; omega
      obtain rfl : slots = ms := by dsimp only at h2; omega
      have hb9 : y' = 0 ∨ y' = 1 := hcond.imp (fun z => Int32.toInt_inj.mp (by rw [hy, z]; rfl)) (fun z => Int32.toInt_inj.mp (by rw [hy, z]; rfl))
      refine vx_ret (W.zret C.1.1 C.1.2.1 (C.1.2.2.1.trans hc.2) (by rcases hb9 with rfl | rfl <;> rfl) (fun t ht hWt => ?_) g5.2.2 hc.1)
      exact ⟨⟨y', (ws, tys), rfl, hy, by rw [ht]; exact g3, g2.moved hWt.alike, g4, g6, g7, by rw [g1]; exact hads⟩, g5.F ht⟩
    · cases hs
  · cases hs
theorem r_lret (C : CX p l R s m args meth c A adK adV b Ls xs x) (hc : c_lret x σ.1 q = true) (hs : s_lret q σ = some (Sum.inr (Sum.inr o))) (h1 : c0 + mc = σ.2.2.2.1.length + σ.2.2.2.2.1) (h2 : s0 + ms = szs σ.2.2.2.1 + 6 * σ.2.2.2.2.1) :
    Go p l e R s m args below meth c (vx_MQ below (QcM D A Ls xs ads0 σ.2.2.2.1 σ.2.2.2.2.2 o) (XcM D A Ls xs ads0 σ.2.2.2.1 σ.2.2.2.2.2 o) args s mc ms A) D A adK b Ls xs x.2.2.1 x.2.2.2.2.2.2 c0 s0 ads0 σ := by
  simp only [c_lret, Bool.and_eq_true, decide_eq_true_eq] at hc
  unfold s_lret at hs
  split at hs
  · rename_i pc L x9 lay nx h
    cases hs
    refine Go.mk (fun ads H locs cells slots ls stv hads hW hL hN hT => ?_)
    obtain ⟨y', vs1, rfl, hy, hT⟩ := hT.consJ
    obtain rfl := hT.nil
    obtain ⟨ws, tys, g1, g2, g3, g4, g5, g6, g7, g8, g9⟩ := hW
    have hlocks := C.2.1.2.1
    obtain rfl : cells = mc := by dsimp only at h1; omega
    obtain rfl : slots = ms := by dsimp only at h2; omega
    refine vx_ret (W.lret C.1.1 C.1.2.1 (C.1.2.2.1.trans hc.2) (fun t ht hWt => ?_) g5.2.2 hc.1)
    exact ⟨⟨y', (ws, tys), rfl, hy, by rw [ht]; exact g3, g2.moved hWt.alike, g4, g6, g7, by rw [g1]; exact hads⟩, g5.F ht⟩
  · cases hs
theorem r_vret (C : CX p l R s m args meth c A adK adV b Ls xs x) (hc : c_vret x σ.1 q = true) (hs : s_vret q σ = some (Sum.inr (Sum.inr o))) (h1 : c0 + mc = σ.2.2.2.1.length + σ.2.2.2.2.1) (h2 : s0 + ms = szs σ.2.2.2.1 + 6 * σ.2.2.2.2.1) :
    Go p l e R s m args below meth c (vx_MQ below (QcM D A Ls xs ads0 σ.2.2.2.1 σ.2.2.2.2.2 o) (XcM D A Ls xs ads0 σ.2.2.2.1 σ.2.2.2.2.2 o) args s mc ms A) D A adK b Ls xs x.2.2.1 x.2.2.2.2.2.2 c0 s0 ads0 σ := by
  simp only [c_vret, Bool.and_eq_true, decide_eq_true_eq] at hc
  unfold s_vret at hs
  split at hs
  · rename_i pc L lay nx h
    cases hs
    refine Go.mk (fun ads H locs cells slots ls stv hads hW hL hN hT => ?_)
    obtain rfl := hT.nil
    obtain ⟨ws, tys, g1, g2, g3, g4, g5, g6, g7, g8, g9⟩ := hW
    have hlocks := C.2.1.2.1
    obtain rfl : cells = mc := by dsimp only at h1; omega
    obtain rfl : slots = ms := by dsimp only at h2; omega
    refine vx_ret (W.vret C.1.1 C.1.2.1 (C.1.2.2.1.trans hc.2) (fun t ht hWt => ?_) g5.2.2 hc.1)
    exact ⟨⟨(ws, tys), rfl, trivial, by rw [ht]; exact g3, g2.moved hWt.alike, g4, g6, g7, by rw [g1]; exact hads⟩, g5.F ht⟩
  · cases hs
theorem exn_fit : ∀ e : Nat, Bundle.fit (exn e) = true := by
  have h : Bundle.fit (exn 0) = true ∧ Bundle.fit (exn 1) = true ∧ Bundle.fit (exn 2) = true := by decide
  intro e
  match e with
  | 0 => exact h.1
  | 1 => exact h.2.1
  | e + 2 => exact h.2.2
theorem exUp_fit : ∀ n ∈ exUp, Bundle.fit n = true := by decide
theorem exn_init : ∀ e : Nat, Cond.initialized (exn e) ∈ GT := by
  have h : Cond.initialized (exn 0) ∈ GT ∧ Cond.initialized (exn 1) ∈ GT ∧ Cond.initialized (exn 2) ∈ GT := by decide +kernel
  intro e
  match e with
  | 0 => exact h.1
  | 1 => exact h.2.1
  | e + 2 => exact h.2.2
theorem r_throw (C : CX p l R s m args meth c A adK adV b Ls xs x) (hc : c_throw x σ.1 q = true) (hs : s_throw q σ = some (Sum.inr (Sum.inr o))) (h1 : c0 + mc = σ.2.2.2.1.length + (σ.2.2.2.2.1 + 1)) (h2 : s0 + ms = szs σ.2.2.2.1 + 6 * (σ.2.2.2.2.1 + 1)) (hR1 : mc ≤ R.cells) (hR2 : ms ≤ R.slots) :
    Go p l e R s m args below meth c (vx_MQ below (QcM D A Ls xs ads0 σ.2.2.2.1 σ.2.2.2.2.2 o) (XcM D A Ls xs ads0 σ.2.2.2.1 σ.2.2.2.2.2 o) args s mc ms A) D A adK b Ls xs x.2.2.1 x.2.2.2.2.2.2 c0 s0 ads0 σ := by
  simp only [c_throw, Bool.and_eq_true, decide_eq_true_eq] at hc
  obtain ⟨⟨d0, d3, d4, d7⟩, hown, hh, hdep, hcl, hp⟩ := hc
  obtain ⟨pc, L, st, lay, nx, h⟩ := σ
  simp only [s_throw] at hs
  split at hs
  · rename_i h8
    have h8 := h8.1
    cases hs
    refine Go.mk (fun ads H locs cells slots ls stv hads hW hL hN hT => ?_)
    obtain ⟨ws, tys, g1, g2, g3, g4, g5, g6, g7, g8, g9⟩ := hW
    dsimp only at h1 h2 d0 d3 d4 d7
    have hE := C.2.2.2.2.2.1
    have hat : ATx q.2.1 q.2.2.2.1 ⊆ BTX := by
      unfold BTX
      rcases hp with hp | hp | hp <;> obtain ⟨e1, e2⟩ := Prod.mk.inj hp <;> rw [e1, e2]
      · exact List.subset_append_left _ _
      · exact fun w hw => List.mem_append_right _ (List.mem_append_left _ hw)
      · exact fun w hw => List.mem_append_right _ (List.mem_append_right _ hw)
    have hwd : ∀ w ∈ BTX, w.before args s = true := by
      intro w hw
      by_cases hg : goodWord w = true
      · exact C.wd (List.mem_filter.mpr ⟨BTX_in w hw, hg⟩)
      · have hb : w ∈ BT := List.mem_append_left _ (List.mem_filter.mpr ⟨hw, by simp [hg]⟩)
        exact va_Nw.use (BT_tables w hb) (hE.2.2.2.1 w hb)
    have hls := hL.2.choose_spec.1.1
    have hown2 : s.vm.findClass "LetterAuction" = some m.cls := by rw [← hown]; exact C.1.2.2.2.2
    have hnm : exUp.length = 2 := rfl
    refine vx_throw0 (own := "LetterAuction") (cls := exn q.2.1) (names := exUp) (ik := q.2.2.1) (ic := q.2.2.2.1) (A := A) C.1.1 C.1.2.1 C.2.2.2.2.2.2 hown2 (exn_fit _) exUp_fit (C.wd hcl) (C.wd (exn_init _)) (fun w hw => hwd w (hat hw)) ?_ hE.1.1 hE.1.2.1 g5 (by rw [hls]; exact C.1.2.2.2.1.symm) d0 d3 d4 d7 ?_ ?_ ?_ (by omega) (by omega) C.2.1.2.1 ?_ g5.2.2 (by omega) (by omega)
    · intro w hw
      rcases List.mem_cons.mp hw with rfl | hw
      · unfold vx_ot; rw [(GT_in hcl).2]; simp
      · rcases List.mem_cons.mp hw with rfl | hw
        · unfold vx_ot; rw [(GT_in (exn_init _)).2]; simp
        · exact BTX_ot w (hat hw)
    · rw [C.2.1.2.2.1, hh]
      intro z hz
      simp [tableOf] at hz
    · have := C.2.2.1; omega
    · rw [hT.cats]; have := C.2.2.2.1; omega
    · intro t ht hsz hk
      exact ⟨(ws, tys), trivial, ⟨rfl, va_P.kept g3 (fun k q hq => hk q.1 (g3 k q hq).lt), g2.moved ht, g4, g6, g7, by rw [g1]; exact hads⟩, Nat.le_trans g5.1 hsz, fun q hq hA => by rw [hk q (Nat.lt_of_lt_of_le hq g5.1)]; exact g5.2.1 q hq hA⟩
  · cases hs
end R1
