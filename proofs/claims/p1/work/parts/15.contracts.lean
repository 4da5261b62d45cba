/-! CONTRACTS OUT OF RUNS -/
abbrev WT : Type := va_W × List (ClassId × FieldType)
def BWd (D : va_G) (A : Nat → Prop) (Ls : Nat) (xs : Nat → Int32) (ads : List Nat) (lay : PY) (h : PC) : WT → State → Prop := fun u t => va_P D vwCl u.1 t.heap ∧ va_K D vwCl u.2 t ∧ va_D A u.1 ∧ HR u.2 u.1 lay h ∧ SCr Ls xs h ∧ ads <+: u.1.map (fun z => z.1)
def QcM (D : va_G) (A : Nat → Prop) (Ls : Nat) (xs : Nat → Int32) (ads : List Nat) (lay : PY) (h : PC) (o : PO) : Array Value → State → Outcome → State → Prop := match o with
  | Sum.inl (some (Sum.inl x)) => va_Qi (fun (r : Int32) (_ : WT) => r.toInt = x) (BWd D A Ls xs ads lay h) A
  | Sum.inl (some (Sum.inr (Sum.inl x))) => va_Ql (fun (r : Int64) (_ : WT) => r.toInt = x) (BWd D A Ls xs ads lay h) A
  | Sum.inl none => va_Qv (fun _ : WT => True) (BWd D A Ls xs ads lay h) A
  | _ => va_Qv (fun _ : WT => False) (BWd D A Ls xs ads lay h) A
def XcM (D : va_G) (A : Nat → Prop) (Ls : Nat) (xs : Nat → Int32) (ads : List Nat) (lay : PY) (h : PC) (o : PO) : String → State → State → Prop := match o with
  | Sum.inr e => vx_X (fun _ : WT => True) (fun E u t => E = exn e ∧ BWd D A Ls xs ads lay h u t) A
  | _ => vx_X (fun _ : WT => False) (fun _ u t => BWd D A Ls xs ads lay h u t) A
def wsM (x : MI) : List Cond := (if x.2.2.2.2.1 = [] then .code x.1 x.2.1 x.2.2.1 x.2.2.2.1 else .codeWith x.1 x.2.1 x.2.2.1 x.2.2.2.1 x.2.2.2.2.1) :: GT
def rmM (x : MI) (mc ms : Nat) : Room := { frames := x.2.2.2.2.2.1, cells := mc, slots := ms, locals := 41 * x.2.2.2.2.2.1 }
def PcM (D : va_G) (adK adV : Nat → Nat) (b Ls : Nat) (xs : Nat → Int32) (ws : va_W) (tys : List (ClassId × FieldType)) (vs : List Value) (sz : Nat) : Array Value → State → Prop := va_Pc vs (fun U => U.heap.size = sz ∧ va_P D vwCl ws U.heap ∧ va_K D vwCl tys U ∧ va_D (fun _ => True) ws ∧ EnvR U (va_A ws sz) adK adV b Ls xs)
def MetM (l : Launch) (D : va_G) (adK adV : Nat → Nat) (b Ls : Nat) (xs : Nat → Int32) (x : MI) (ws : va_W) (tys : List (ClassId × FieldType)) (vs : List Value) (sz mc ms : Nat) (lay : PY) (h : PC) (o : PO) : Prop :=
  vx_Met l x.1 (wsM x) (rmM x mc ms) (PcM D adK adV b Ls xs ws tys vs sz) (QcM D (va_A ws sz) Ls xs (ws.map (fun z => z.1)) lay h o) (XcM D (va_A ws sz) Ls xs (ws.map (fun z => z.1)) lay h o) mc ms (va_A ws sz)
theorem PcM.blind {D : va_G} {adK adV : Nat → Nat} {b Ls : Nat} {xs : Nat → Int32} {ws : va_W} {tys : List (ClassId × FieldType)} {vs : List Value} {sz : Nat} : FrameBlind (PcM D adK adV b Ls xs ws tys vs sz) := by
  intro a U g mk q
  obtain ⟨q0, q1, qP, qK, qD, qE⟩ := q
  exact ⟨q0, q1, qP, va_K.moved (u := U) (U := U.calling g mk a) (Vm.Alike.refl U.vm) qK, qD, EnvR.same (U := U.calling g mk a) qE rfl rfl⟩
theorem layA_len {ads : List Nat} {adK : Nat → Nat} {b : Nat} : ∀ {args : List PV} {vs : List Value}, TRel ads adK b args vs → (lg_sl vs).length = (layA args).length
  | [], vs, h => by rw [h.nil]; rfl
  | q :: args, vs, h => by
    obtain ⟨v, vs', rfl, h1, h2⟩ := h.cons
    have ih := layA_len h2
    have hc := h1.cat
    rcases q with x | x | x <;> simp only [pcat] at hc <;> simp [lg_sl, layA, hc] at ih ⊢ <;> omega
theorem layA_args {ads : List Nat} {adK : Nat → Nat} {b : Nat} : ∀ {args : List PV} {vs : List Value} (k : Nat), TRel ads adK b args vs → ∀ (i : Nat) (q : PV), (layA args)[i]? = some (some q) → ∃ v, VR ads adK b q v ∧ (k + i, v) ∈ lv_args k vs
  | [], vs, k, h, i, q, hq => by simp [layA] at hq
  | p :: args, vs, k, h, i, q, hq => by
    obtain ⟨v, vs', rfl, h1, h2⟩ := h.cons
    have hc := h1.cat
    have one : pcat p = 1 → layA (p :: args) = some p :: layA args := by
      intro hp; rcases p with x | x | x <;> first | rfl | (simp [pcat] at hp)
    rcases p with x | x | x
    · rw [one rfl] at hq
      cases i with
      | zero => cases hq; exact ⟨v, h1, by simp [lv_args]⟩
      | succ i =>
        obtain ⟨w, h3, h4⟩ := layA_args (k + 1) h2 i q hq
        refine ⟨w, h3, ?_⟩
        rw [lv_args, if_neg (by rw [hc]; simp [pcat])]
        rw [show k + (i + 1) = k + 1 + i by omega]
        exact List.mem_cons_of_mem _ h4
    · have e2 : layA (Sum.inr (Sum.inl x) :: args) = some (Sum.inr (Sum.inl x)) :: none :: layA args := rfl
      rw [e2] at hq
      match i, hq with
      | 0, hq => cases hq; exact ⟨v, h1, by simp [lv_args]⟩
      | 1, hq => cases hq
      | i + 2, hq =>
        obtain ⟨w, h3, h4⟩ := layA_args (k + 2) h2 i q hq
        refine ⟨w, h3, ?_⟩
        rw [lv_args, if_pos (by rw [hc]; rfl)]
        rw [show k + (i + 2) = k + 2 + i by omega]
        exact List.mem_cons_of_mem _ h4
    · rw [one rfl] at hq
      cases i with
      | zero => cases hq; exact ⟨v, h1, by simp [lv_args]⟩
      | succ i =>
        obtain ⟨w, h3, h4⟩ := layA_args (k + 1) h2 i q hq
        refine ⟨w, h3, ?_⟩
        rw [lv_args, if_neg (by rw [hc]; simp [pcat])]
        rw [show k + (i + 1) = k + 1 + i by omega]
        exact List.mem_cons_of_mem _ h4
theorem ent_rel {ads : List Nat} {adK : Nat → Nat} {b nL : Nat} {args : List PV} {vs : List Value} (h : TRel ads adK b args vs) (hl : (layA args).length ≤ nL) : LRel ads adK b nL (entL args nL) ((lg_sl vs ++ List.replicate (nL - (lg_sl vs).length) Slot.unset).toArray) := by
  refine ⟨by simp [entL]; omega, _, lv_entry vs (by rw [layA_len h]; exact hl), fun i q hq => ?_⟩
  unfold entL at hq
  by_cases hi : i < (layA args).length
  · rw [List.getElem?_append_left hi] at hq
    obtain ⟨v, h1, h2⟩ := layA_args 0 h i q hq
    exact ⟨v, h1, by simpa using h2⟩
  · rw [List.getElem?_append_right (by omega)] at hq
    have := List.mem_of_getElem? hq
    simp at this
theorem QcM.F {D : va_G} {A : Nat → Prop} {Ls : Nat} {xs : Nat → Int32} {ads : List Nat} {lay : PY} {h : PC} {o : PO} {a : Array Value} {st t : State} {oc : Outcome} (q : QcM D A Ls xs ads lay h o a st oc t) : va_F A st t := by
  unfold QcM at q
  split at q <;> exact q.2
/-- a method's contract, out of what its body does from its entry -/
theorem metM_of {l : Launch} {D : va_G} {adK adV : Nat → Nat} {b Ls : Nat} {xs : Nat → Int32} {x : MI} {ws : va_W} {tys : List (ClassId × FieldType)} {vs : List Value} {sz mc ms : Nat} {lay lay' : PY} {nx : Nat} {h h' : PC} {o : PO} {args : List PV}
    (hy : plainName x.1.cls = true) (htr : l.stackTraces = false) (hent : (layA args).length ≤ x.2.2.1) (hnj : NJ x.2.2.2.2.2.2 (entL args x.2.2.1)) (hHR : HR tys ws lay h) (hSC : SCr Ls xs h) (hT : TRel (ws.map (fun z => z.1)) adK b args vs)
    (G : ∀ (p : Program) (e : Env) (s : State) (m : MethodId) (av : Array Value) (below : List Frame) (meth : Method) (c : Code), s.heap.size = sz → CX p l (rmM x mc ms) s m av meth c (va_A ws sz) adK adV b Ls xs x →
      Go p l e (rmM x mc ms) s m av below meth c (vx_MQ below (QcM D (va_A ws sz) Ls xs (ws.map (fun z => z.1)) lay' h' o) (XcM D (va_A ws sz) Ls xs (ws.map (fun z => z.1)) lay' h' o) av s mc ms (va_A ws sz)) D (va_A ws sz) adK b Ls xs x.2.2.1 x.2.2.2.2.2.2 (lay.length + nx) (szs lay + 6 * nx) (ws.map (fun z => z.1)) (0, entL args x.2.2.1, [], lay, nx, h)) :
    MetM l D adK adV b Ls xs x ws tys vs sz mc ms lay' h' o := by
  have fin : ∀ (p : Program) (e : Env) (s : State) (m : MethodId) (av : Array Value) (below : List Frame) (meth : Method) (c : Code) (s₁ : State), BodyLoose p l x.1 (headSpec (wsM x) (rmM x mc ms)) x.2.1 x.2.2.1 x.2.2.2.1 e s m av below meth c s₁ → c.maxLocals = x.2.2.1 → c.exceptionTable.toList = tableOf x.2.2.2.2.1 → PcM D adK adV b Ls xs ws tys vs sz av s →
      W p l e (headSpec (wsM x) (rmM x mc ms)).room s m av below meth c s.heap [] 0 0 (vx_MQ below (QcM D (va_A ws sz) Ls xs (ws.map (fun z => z.1)) lay' h' o) (XcM D (va_A ws sz) Ls xs (ws.map (fun z => z.1)) lay' h' o) av s mc ms (va_A ws sz)) (entryFrame m av x.2.2.1) := by
    intro p e s m av below meth c s₁ B hml htab hv
    obtain ⟨rfl, hsz, hP, hK, hD0, hE⟩ := hv
    have hts := atoms_spec (ws := wsM x) B.pre
    have hC : CX p l (rmM x mc ms) s m vs.toArray meth c (va_A ws sz) adK adV b Ls xs x :=
      ⟨⟨B.exec, B.bytes, B.returns, hml, findClass_of_methodNamed B.named⟩, ⟨fun w hw => hts w (List.mem_cons_of_mem _ hw), B.notSynchronized, htab, fun hn => by rw [(name_of_methodNamed B.named B.method).1]; exact hn⟩,
        Nat.le_refl _, Nat.le_refl _, fun q hq => Or.inr (by rw [← hsz]; exact hq), hE, htr⟩
    rw [lg_entry_eq]
    have hD := hD0.self (sz := sz)
    exact G p e s m vs.toArray below meth c hsz hC (ws.map (fun z => z.1)) s.heap [] 0 0 _ [] (List.prefix_refl _) ⟨ws, tys, rfl, hK, hP, hD, va_S.rf, hHR, hSC, rfl, rfl⟩ (ent_rel hT hent) hnj trivial
  unfold MetM
  by_cases hh : x.2.2.2.2.1 = []
  · refine vx_ofW (cc := x.2.1) (maxL := x.2.2.1) (ret := x.2.2.2.1) (ws' := GT) hy (by unfold wsM; rw [if_pos hh]) ?_
    intro p e s m av below meth c s₁ B hml hno hv
    refine fin p e s m av below meth c s₁ B hml ?_ hv
    rw [hh]
    cases hl : c.exceptionTable.toList with
    | nil => rfl
    | cons z r => exact (hno z (by rw [hl]; exact List.mem_cons_self)).elim
  · refine vx_ofWH (cc := x.2.1) (maxL := x.2.2.1) (ret := x.2.2.2.1) (hh := x.2.2.2.2.1) (ws' := GT) hy (by unfold wsM; rw [if_neg hh]) ?_
    intro p e s m av below meth c s₁ B hml hv
    refine fin p e s m av below meth c s₁ B hml (vx_table (x := x.1) B (atoms_spec (ws := wsM x) B.pre _ (by unfold wsM; rw [if_neg hh]; exact List.mem_cons_self))) hv
/-- what never throws, called by invokespecial -/
theorem met_of_vx {l : Launch} {y : MethodName} {ws : List Cond} {rm : Room} {Pc : Array Value → State → Prop} {Qc : Array Value → State → Outcome → State → Prop} {B : String → WT → State → Prop} {A : Nat → Prop} {mc ms : Nat} {free : Addr → Prop}
    (h : vx_Met l y ws rm Pc Qc (vx_X (fun _ : WT => False) B A) mc ms free) : Met l y ws rm Pc Qc mc ms free := by
  have e : vx_Q Qc (vx_X (fun _ : WT => False) B A) mc ms free = fun a st o t => Qc a st o t ∧ ∃ L, FrameEnd st o t L mc ms ∧ ∀ q ∈ L, free q.base := by
    funext a st o t
    refine propext ⟨fun z => ?_, fun z => Or.inl z⟩
    rcases z with z | ⟨q, -, E, ce, L, ⟨u, hu, -⟩, -⟩
    · exact z
    · exact hu.elim
  unfold vx_Met at h
  rw [e] at h
  exact h
