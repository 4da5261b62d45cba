section K2s
variable {p : Program} {l : Launch} {e : Env} {R : Room} {s : State} {m : MethodId} {args : Array Value} {below : List Frame} {meth : Method} {c : Code} {Q : State → Prop} {D : va_G} {A : Nat → Prop} {adK adV : Nat → Nat} {b Ls : Nat} {xs : Nat → Int32} {c0 s0 : Nat} {ads0 : List Nat} {q : PI} {σ σ' : PS} {x : MI}
theorem WRel.same {ads : List Nat} {lay : PY} {nx : Nat} {h : PC} {H H1 : Heap} {locs locs1 : List Loc} {cells slots : Nat} (hW : WRel D s A Ls xs c0 s0 ads lay nx h H locs cells slots) (hk : ∀ q : Nat, q < H.size → H1[q]? = H[q]?) (hS : va_S A s.heap H1 locs1) : WRel D s A Ls xs c0 s0 ads lay nx h H1 locs1 cells slots := by
  obtain ⟨ws, tys, g1, g2, g3, g4, g5, g6, g7, g8, g9⟩ := hW
  exact ⟨ws, tys, g1, g2, g3.kept (fun k q hq => hk q.1 (g3 k q hq).lt), g4, hS, g6, g7, g8, g9⟩
theorem VR.str {ads : List Nat} {a : Int} {v : Value} (h : VR ads adK b (Sum.inr (Sum.inr a)) v) (h1 : -7 ≤ a) (h2 : a < 0) : ∃ i : Nat, i < 7 ∧ a = -((i : Int) + 1) ∧ v = .ref (adK i) := by
  rcases h with ⟨i, z, -, h, -⟩ | h | ⟨h, -⟩ | ⟨h, -⟩
  · omega
  · exact h
  · omega
  · omega
theorem strL : ∀ i : Nat, i < 7 → (Int32.ofNat (lenS.getD i 0)).toInt = ((pstrs.getD i []).length : Int) ∧ lenS.getD i 0 = (pstrs.getD i []).length := by decide +kernel
theorem strC : ∀ i : Nat, i < 7 → ∀ j : Nat, j < lenS.getD i 0 → (Int32.ofNat ((pstrs.getD i []).getD j 0)).toInt = (((pstrs.getD i []).getD j 0 : Nat) : Int) := by decide +kernel
theorem mmGT : (Cond.static Lib.Math.min.name ∈ GT ∧ Cond.code Lib.Math.min.name Lib.Math.min.code 2 (some .int) ∈ GT) ∧ (Cond.static Lib.Math.max.name ∈ GT ∧ Cond.code Lib.Math.max.name Lib.Math.max.code 2 (some .int) ∈ GT) ∧ Cond.initialized "java/lang/Math" ∈ GT := by decide +kernel
theorem k_mmin (C : CX p l R s m args meth c A adK adV b Ls xs x) (hc : c_mmin x σ.1 q = true) (hs : s_mmin q σ = some (Sum.inl σ')) (hrb : RB R c0 s0 σ') (k : Go p l e R s m args below meth c Q D A adK b Ls xs x.2.2.1 x.2.2.2.2.2.2 c0 s0 ads0 σ') : Go p l e R s m args below meth c Q D A adK b Ls xs x.2.2.1 x.2.2.2.2.2.2 c0 s0 ads0 σ := by
  simp only [c_mmin, Bool.and_eq_true, decide_eq_true_eq] at hc
  obtain ⟨hd, hlk, hdep⟩ := hc
  unfold s_mmin pnext at hs
  split at hs
  · rename_i pc L y1 x1 st lay nx h
    split at hs
    · rename_i hcond
      cases hs
      refine Go.mk (fun ads H locs cells slots ls stv hads hW hL hN hT => ?_)
      obtain ⟨y9, vs0, rfl, hy9, hT1⟩ := hT.consI
      obtain ⟨x9, vs', rfl, hx9, hT2⟩ := hT1.consI
      obtain ⟨ws, tys, g1, g2, g3, g4, g5, g6, g7, g8, g9⟩ := id hW
      have hrb1 := hrb.1
      have hrb2 := hrb.2
      dsimp only at hrb1 hrb2 hd hlk
      refine va_mmin C.1.1 C.1.2.1 (C.1.2.2.2.1.trans hL.2.choose_spec.1.1.symm) C.1.2.2.2.2 (C.gw hlk) (C.wd mmGT.1.1) (C.wd mmGT.2.2) (C.wd mmGT.1.2) (by have := C.2.2.1; omega) (by rw [hT2.cats]; have := C.2.2.2.1; omega) (by omega) (by omega) hd ?_
      refine k ads H locs _ _ ls _ hads hW hL hN ⟨⟨_, rfl, ?_⟩, hT2⟩
      rw [← hx9, ← hy9]
      by_cases hlt : y9 < x9
      · rw [if_pos hlt, if_pos (Int32.lt_iff_toInt_lt.mp hlt)]
      · rw [if_neg hlt, if_neg (fun h => hlt (Int32.lt_iff_toInt_lt.mpr h))]
    · cases hs
  · cases hs
theorem k_mmax (C : CX p l R s m args meth c A adK adV b Ls xs x) (hc : c_mmax x σ.1 q = true) (hs : s_mmax q σ = some (Sum.inl σ')) (hrb : RB R c0 s0 σ') (k : Go p l e R s m args below meth c Q D A adK b Ls xs x.2.2.1 x.2.2.2.2.2.2 c0 s0 ads0 σ') : Go p l e R s m args below meth c Q D A adK b Ls xs x.2.2.1 x.2.2.2.2.2.2 c0 s0 ads0 σ := by
  simp only [c_mmax, Bool.and_eq_true, decide_eq_true_eq] at hc
  obtain ⟨hd, hlk, hdep⟩ := hc
  unfold s_mmax pnext at hs
  split at hs
  · rename_i pc L y1 x1 st lay nx h
    split at hs
    · rename_i hcond
      cases hs
      refine Go.mk (fun ads H locs cells slots ls stv hads hW hL hN hT => ?_)
      obtain ⟨y9, vs0, rfl, hy9, hT1⟩ := hT.consI
      obtain ⟨x9, vs', rfl, hx9, hT2⟩ := hT1.consI
      obtain ⟨ws, tys, g1, g2, g3, g4, g5, g6, g7, g8, g9⟩ := id hW
      have hrb1 := hrb.1
      have hrb2 := hrb.2
      dsimp only at hrb1 hrb2 hd hlk
      refine va_mmax C.1.1 C.1.2.1 (C.1.2.2.2.1.trans hL.2.choose_spec.1.1.symm) C.1.2.2.2.2 (C.gw hlk) (C.wd mmGT.2.1.1) (C.wd mmGT.2.2) (C.wd mmGT.2.1.2) (by have := C.2.2.1; omega) (by rw [hT2.cats]; have := C.2.2.2.1; omega) (by omega) (by omega) hd ?_
      refine k ads H locs _ _ ls _ hads hW hL hN ⟨⟨_, rfl, ?_⟩, hT2⟩
      rw [← hx9, ← hy9]
      by_cases hlt : x9 < y9
      · rw [if_pos hlt, if_pos (Int32.lt_iff_toInt_lt.mp hlt)]
      · rw [if_neg hlt, if_neg (fun h => hlt (Int32.lt_iff_toInt_lt.mpr h))]
    · cases hs
  · cases hs
theorem k_slength (C : CX p l R s m args meth c A adK adV b Ls xs x) (hc : c_slength x σ.1 q = true) (hs : s_slength q σ = some (Sum.inl σ')) (hrb : RB R c0 s0 σ') (k : Go p l e R s m args below meth c Q D A adK b Ls xs x.2.2.1 x.2.2.2.2.2.2 c0 s0 ads0 σ') : Go p l e R s m args below meth c Q D A adK b Ls xs x.2.2.1 x.2.2.2.2.2.2 c0 s0 ads0 σ := by
  simp only [c_slength, Bool.and_eq_true, decide_eq_true_eq] at hc
  obtain ⟨hd, hlk, hdep⟩ := hc
  unfold s_slength pnext at hs
  split at hs
  · rename_i pc L a st lay nx h
    split at hs
    · rename_i hcond
      cases hs
      refine Go.mk (fun ads H locs cells slots ls stv hads hW hL hN hT => ?_)
      obtain ⟨v, vs', rfl, hv, hT2⟩ := hT.cons
      obtain ⟨i, hi, rfl, rfl⟩ := VR.str hv hcond.1 hcond.2.1
      obtain ⟨ws, tys, g1, g2, g3, g4, g5, g6, g7, g8, g9⟩ := id hW
      have hE := SE.of C.2.2.2.2.2.1
      have hrb1 := hrb.1
      have hrb2 := hrb.2
      dsimp only at hrb1 hrb2 hd hlk
      refine va_calli (va_runV (As := []) (rest := vs') ⟨C.1.1, C.1.2.1, C.1.2.2.2.1, C.1.2.2.2.2, C.2.1.1⟩ (m_length l A adK adV hi)
        (cwV 0 C.2.1.1 (GT_good (fun w h => by
          simp only [wsV, List.cons_append, List.nil_append, List.mem_cons] at h
          rcases h with rfl | rfl | rfl | rfl | rfl | h
          · exact gw_in hlk
          · exact strGT2 _ (List.mem_of_getElem? (i := 5) rfl)
          · exact strGT2 _ (List.mem_of_getElem? (i := 9) rfl)
          · exact strGT2 _ (List.mem_of_getElem? (i := 16) rfl)
          · exact strGT.1
          · exact h)) rfl rfl rfl (by decide) ⟨by show 1 + 1 ≤ R.frames; have := C.2.2.1; omega, by show 8 + (1 + 11) + 41 ≤ R.locals; have := C.2.2.2.1; omega⟩)
        ⟨sPc.blind, vk_recv hE.1 hi g5, fun U hU hWU => ⟨rfl, hE.call g5 hWU hU⟩⟩ rfl rfl hL.2.choose_spec.1.1 rfl (lv_room (by rw [hT2.cats]; exact hcond.2.2)) hd ⟨by show cells + 0 ≤ R.cells; omega, by show slots + 0 ≤ R.slots; omega⟩) g5 (fun _ _ h => h.elim) (fun _ h => h.elim) (fun r u t H1 locs1 ht hvm hw hB hz1 hk1 hS1 => ?_)
      subst hw
      refine k ads H1 locs1 _ _ ls _ hads (hW.same (fun q hq => hk1 q hq (fun z => z)) hS1) hL hN ⟨⟨_, rfl, ?_⟩, hT2⟩
      rw [(strL i hi).1]
      unfold pstrLen
      rw [show (- -((i : Int) + 1) - 1).toNat = i by omega]
    · cases hs
  · cases hs
theorem k_scharAt (C : CX p l R s m args meth c A adK adV b Ls xs x) (hc : c_scharAt x σ.1 q = true) (hs : s_scharAt q σ = some (Sum.inl σ')) (hrb : RB R c0 s0 σ') (k : Go p l e R s m args below meth c Q D A adK b Ls xs x.2.2.1 x.2.2.2.2.2.2 c0 s0 ads0 σ') : Go p l e R s m args below meth c Q D A adK b Ls xs x.2.2.1 x.2.2.2.2.2.2 c0 s0 ads0 σ := by
  simp only [c_scharAt, Bool.and_eq_true, decide_eq_true_eq] at hc
  obtain ⟨hd, hlk, hdep⟩ := hc
  unfold s_scharAt pnext at hs
  split at hs
  · rename_i pc L jx a st lay nx h
    split at hs
    · rename_i hcond
      cases hs
      refine Go.mk (fun ads H locs cells slots ls stv hads hW hL hN hT => ?_)
      obtain ⟨y9, vs0, rfl, hy9, hT1⟩ := hT.consI
      obtain ⟨v, vs', rfl, hv, hT2⟩ := hT1.cons
      obtain ⟨h1, h2, h3, h4, h5⟩ := hcond
      obtain ⟨i, hi, rfl, rfl⟩ := VR.str hv h1 h2
      obtain ⟨ws, tys, g1, g2, g3, g4, g5, g6, g7, g8, g9⟩ := id hW
      have hE := SE.of C.2.2.2.2.2.1
      have hrb1 := hrb.1
      have hrb2 := hrb.2
      dsimp only at hrb1 hrb2 hd hlk
      have hij : (- -((i : Int) + 1) - 1).toNat = i := by omega
      have hjl : jx.toNat < lenS.getD i 0 := by
        unfold pstrLen at h4
        rw [hij] at h4
        rw [(strL i hi).2]
        omega
      have hkj : y9 = Int32.ofNat jx.toNat := by
        apply Int32.toInt_inj.mp
        rw [hy9, Int32.toInt_ofNat']
        have hl8 : ∀ i : Nat, i < 7 → lenS.getD i 0 < 8 := by decide
        have := hl8 i hi
        rw [show Int.bmod (jx.toNat : Int) (2 ^ 32) = w32 (jx.toNat : Int) from rfl, w32_id (by omega) (by omega)]
        omega
      refine va_calli (va_runV (As := [.int y9]) (rest := vs') ⟨C.1.1, C.1.2.1, C.1.2.2.2.1, C.1.2.2.2.2, C.2.1.1⟩ (m_charAt l A adK adV hi hjl hkj)
        (cwV 1 C.2.1.1 (GT_good (fun w h => by
          simp only [wsV, List.cons_append, List.nil_append, List.mem_cons] at h
          rcases h with rfl | rfl | rfl | rfl | rfl | h
          · exact gw_in hlk
          · exact strGT2 _ (List.mem_of_getElem? (i := 7) rfl)
          · exact strGT2 _ (List.mem_of_getElem? (i := 11) rfl)
          · exact strGT2 _ (List.mem_of_getElem? (i := 16) rfl)
          · exact strGT.2.1
          · exact h)) rfl rfl rfl (by decide) ⟨by show 3 + 1 ≤ R.frames; have := C.2.2.1; omega, by show 8 + (2 + 11) + 123 ≤ R.locals; have := C.2.2.2.1; omega⟩)
        ⟨sPc.blind, vk_recv hE.1 hi g5, fun U hU hWU => ⟨rfl, hE.call g5 hWU hU⟩⟩ rfl rfl hL.2.choose_spec.1.1 rfl (lv_room (by rw [hT2.cats]; exact h5)) hd ⟨by show cells + 0 ≤ R.cells; omega, by show slots + 0 ≤ R.slots; omega⟩) g5 (fun _ _ h => h.elim) (fun _ h => h.elim) (fun r u t H1 locs1 ht hvm hw hB hz1 hk1 hS1 => ?_)
      subst hw
      refine k ads H1 locs1 _ _ ls _ hads (hW.same (fun q hq => hk1 q hq (fun z => z)) hS1) hL hN ⟨⟨_, rfl, ?_⟩, hT2⟩
      rw [strC i hi _ hjl]
      unfold pstrAt
      rw [hij]
    · cases hs
  · cases hs
end K2s
