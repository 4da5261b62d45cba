/-! FROM THE LAW'S RUN TO THE CLAIM -/
theorem all7 {P : Cond → Prop} {f : Nat → Cond} {F : List Cond} (h : ∀ w ∈ F, P w) (hc : ∀ i, i < 7 → f i ∈ F) : ∀ i, i < 7 → P (f i) := fun i hi => h _ (hc i hi)
def FN : List Cond := flatC (Jvm.Cond.and given_1 narrow_1)

def R_law : String := "LetterAuctionLaw"
def lw_P (b : Addr) (xs : List Int32) (args : Array Value) (s : State) : Prop := args = #[.ref b] ∧ s.IntsAt b xs ∧ xs.length ≤ 6 ∧ (Jvm.Cond.and given_1 narrow_1).before args s = true
def lw_Q (_ : Array Value) (s : State) (o : Outcome) (t : State) : Prop := o = .returned (some (.int 1)) ∧ Framed s o t [] room_1.cells room_1.slots
def lw_Z (below : List Frame) (a : Array Value) (s : State) : State → Prop := fun t => ∃ o, t.status = .running ∧ Ended t below o ∧ lw_Q a s o t
/-- the law's own end, with 1 on the stack, nothing written that was there before, its room as the claim has it -/
theorem lw_ret {p : Program} {l : Launch} {e : Env} {s : State} {m : MethodId} {below : List Frame} {meth : Method} {c : Code} {b : Nat} (hx : p.tables.exec = Jvm.exec) (hb : c.code = code) (hr : meth.sig.returnType = ret) (hlocks : meth.locks = false) {pc : Nat} {H : Heap} {ls : Array Slot} (hdg : decode code pc = .ok (.ireturn, 1)) : W p l e room_1 s m #[Value.ref b] below meth c H [] room_1.cells room_1.slots (lw_Z below #[Value.ref b] s) (F0 m pc ls [.int 1]) := by
  intro T hT X
  obtain ⟨fs, hret, hrun, hended, hW, hframe⟩ := X.leave (v := some (.int 1)) (hlocks := hlocks) (fun h => by rw [hr] at h; cases h)
  have hmeth' : T.vm.method? m = some meth := X.method'
  refine ⟨T.setFrames fs, ?_, .returned (some (.int 1)), hrun, hended, rfl, ⟨_, rfl⟩, hW, hframe⟩
  jvm_step X.here [X.here.top, hx, hb, hdg, hmeth', hr, ret, narrow_b1]
  (try refine ⟨rfl, ?_⟩); (try refine ⟨rfl, ?_⟩)
  first | (intro acts; rw [hret _ acts rfl rfl rfl]) | rw [hret _ _ rfl rfl rfl]
  exact Steps.refl _
/-- what holds at the law's entry: the machine, the code, the tables' words (any of lw_tbl by 'hts w (by decide +kernel)'), the script of L ints xs at the cell b, what the Statement gives of the start (any of its parts by flat_of_before) -/
def lw_At (p : Program) (s : State) (m : MethodId) (meth : Method) (c : Code) (b L : Nat) (xs : Nat → Int32) : Prop :=
  p.tables.exec = Jvm.exec ∧ c.code = code ∧ meth.sig.returnType = ret ∧ c.maxLocals = 8 ∧ s.vm.findClass R_law = some m.cls ∧ (∀ w ∈ lw_tbl, w.before #[Value.ref b] s = true) ∧ va_X b L xs s s.heap ∧ b < s.heap.size ∧ meth.locks = false ∧ (Jvm.Cond.and given_1 narrow_1).before #[Value.ref b] s = true ∧ c.exceptionTable.toList = []

/-- the class' numbers and the slots of their fields -/
theorem top_known {s : State} {args : Array Value} (hts : ∀ w ∈ GT, w.before args s = true) : ∃ D : va_G, va_K D vwCl [] s := by
  obtain ⟨c0, i0, k0⟩ := u_known (C := RX0) (T := TX0) (N := 8) (n := 8) hts (uGT 0 (by decide) (RX0, TX0, 8) rfl) (hts _ (newGT 0 (by decide) (RX0, TX0, 8) rfl).1)
  obtain ⟨c1, i1, k1⟩ := u_known (C := RX1) (T := TX1) (N := 5) (n := 5) hts (uGT 1 (by decide) (RX1, TX1, 5) rfl) (hts _ (newGT 1 (by decide) (RX1, TX1, 5) rfl).1)
  obtain ⟨c2, i2, k2⟩ := u_known (C := RX2) (T := TX2) (N := 11) (n := 11) hts (uGT 2 (by decide) (RX2, TX2, 11) rfl) (hts _ (newGT 2 (by decide) (RX2, TX2, 11) rfl).1)
  obtain ⟨c3, i3, k3⟩ := u_known (C := RX3) (T := TX3) (N := 9) (n := 9) hts (uGT 3 (by decide) (RX3, TX3, 9) rfl) (hts _ (newGT 3 (by decide) (RX3, TX3, 9) rfl).1)
  obtain ⟨c4, i4, k4⟩ := u_known (C := RX4) (T := TX4) (N := 8) (n := 8) hts (uGT 4 (by decide) (RX4, TX4, 8) rfl) (hts _ (newGT 4 (by decide) (RX4, TX4, 8) rfl).1)
  obtain ⟨c5, i5, k5⟩ := u_known (C := RX5) (T := TX5) (N := 15) (n := 15) hts (uGT 5 (by decide) (RX5, TX5, 15) rfl) (hts _ (newGT 5 (by decide) (RX5, TX5, 15) rfl).1)
  obtain ⟨c6, i6, k6⟩ := u_known (C := RX6) (T := TX6) (N := 4) (n := 4) hts (uGT 6 (by decide) (RX6, TX6, 4) rfl) (hts _ (newGT 6 (by decide) (RX6, TX6, 4) rfl).1)
  obtain ⟨c7, i7, k7⟩ := u_known (C := RX7) (T := TX7) (N := 8) (n := 8) hts (uGT 7 (by decide) (RX7, TX7, 8) rfl) (hts _ (newGT 7 (by decide) (RX7, TX7, 8) rfl).1)
  obtain ⟨c8, i8, k8⟩ := u_known (C := RX8) (T := TX8) (N := 30) (n := 30) hts (uGT 8 (by decide) (RX8, TX8, 30) rfl) (hts _ (newGT 8 (by decide) (RX8, TX8, 30) rfl).1)
  refine ⟨(fun k => match k with | 0 => c0 | 1 => c1 | 2 => c2 | 3 => c3 | 4 => c4 | 5 => c5 | 6 => c6 | 7 => c7 | _ => c8, fun k => match k with | 0 => i0 | 1 => i1 | 2 => i2 | 3 => i3 | 4 => i4 | 5 => i5 | 6 => i6 | 7 => i7 | _ => i8), ?_, fun k q h => by simp at h⟩
  intro k q hq
  match k, hq with
  | 0, hq => cases hq; exact k0
  | 1, hq => cases hq; exact k1
  | 2, hq => cases hq; exact k2
  | 3, hq => cases hq; exact k3
  | 4, hq => cases hq; exact k4
  | 5, hq => cases hq; exact k5
  | 6, hq => cases hq; exact k6
  | 7, hq => cases hq; exact k7
  | 8, hq => cases hq; exact k8
  | k + 9, hq => simp [vwCl] at hq
def tmS (i : Nat) : Term := match i with | 0 => .string "LetterAuction$Reader" 52 | 1 => .string "LetterAuction$Reader" 82 | 2 => .string "LetterAuction$Reader" 128 | 3 => .string "LetterAuction$Reader" 87 | 4 => .string "LetterAuction$Reader" 92 | 5 => .string "LetterAuction$Reader" 94 | _ => .string "LetterAuction$Reader" 96
theorem chk_ex : ∀ i, i < 7 → Cond.exactly (tmS i) "java/lang/String" ∈ FN := by decide +kernel
theorem chk_co : ∀ i, i < 7 → Cond.eq (.field (tmS i) "java/lang/String" "coder" "B") (.int 0) ∈ FN := by decide +kernel
theorem chk_ar : ∀ i, i < 7 → Cond.arrayOf (.field (tmS i) "java/lang/String" "value" "[B") .byte ∈ FN := by decide +kernel
theorem chk_le : ∀ i, i < 7 → Cond.eq (.length (.field (tmS i) "java/lang/String" "value" "[B")) (.int (Int32.ofNat (lenS.getD i 0))) ∈ FN := by decide +kernel
theorem chk_el : ∀ i, i < 7 → ∀ j, j < lenS.getD i 0 → Cond.eq (.elem (.field (tmS i) "java/lang/String" "value" "[B") (.int (Int32.ofNat j))) (.int ((bytS.getD i []).getD j 0)) ∈ FN := by decide +kernel
theorem chk_ne : ∀ i, i < 7 → ∀ j, j < 7 → i ≠ j → Cond.not (Cond.eq (tmS i) (tmS j)) ∈ FN ∨ Cond.not (Cond.eq (tmS j) (tmS i)) ∈ FN := by decide +kernel
/-- what of the start stays: from the Statement's own premises -/
theorem top_env {s : State} {b L : Nat} {xs : Nat → Int32} (hts : ∀ w ∈ lw_tbl, w.before #[Value.ref b] s = true) (hgv : (Jvm.Cond.and given_1 narrow_1).before #[Value.ref b] s = true) (hX : va_X b L xs s s.heap) (hbl : b < s.heap.size) (hL : L < 2147483648) : ∃ adK adV : Nat → Nat, EnvR s (fun q => s.heap.size ≤ q) adK adV b L xs := by
  have hs := flat_of_before _ hgv
  have hA : ∀ a : Nat, a < s.heap.size → ¬ (fun q => s.heap.size ≤ q) a := fun a h => Nat.not_le.mpr h
  have z1 := vx_Zqof (C := Bundle.tN) (n := "UNASSIGNED_STACK") (d := Bundle.steD) (hts _ (by decide +kernel)) (hts _ (by decide +kernel)) (hs _ (by decide +kernel)) hA
  have z2 := vx_Zqof (C := Bundle.tN) (n := "SUPPRESSED_SENTINEL") (d := Bundle.listD) (hts _ (by decide +kernel)) (hts _ (by decide +kernel)) (hs _ (by decide +kernel)) hA
  have z5 := vx_Zqof (C := "jdk/internal/util/Preconditions") (n := "SIOOBE_FORMATTER") (d := "Ljava/util/function/BiFunction;") (hts _ (by decide +kernel)) (hts _ (by decide +kernel)) (hs _ (by decide +kernel)) hA
  have hcs : (Cond.eq (.static "java/lang/String" "COMPACT_STRINGS" "Z") (.int 1)).before #[Value.ref b] s = true := hs _ (by decide +kernel)
  obtain ⟨v, hv1, hv2⟩ := Cond.eq_one hcs
  have hv : v = .int 1 := (Option.some.inj hv2).symm
  subst hv
  have z4 := va_Zof (C := "java/lang/String") (n := "COMPACT_STRINGS") (d := "Z") (hts _ (by decide +kernel)) (hts _ (by decide +kernel)) hv1 hA
  obtain ⟨adK, adV, z3, hev⟩ := vk_Sof (args := #[Value.ref b]) (s := s) (N := 7) (tm := tmS) (len := lenS) (byt := bytS) (A := fun q => s.heap.size ≤ q)
    (by decide) (all7 (fun w => hs w) chk_ex) (all7 (fun w => hs w) chk_co) (all7 (fun w => hs w) chk_ar) (all7 (fun w => hs w) chk_le) (fun i hi j hj => hs _ (chk_el i hi j hj)) (fun i j hi hj hne => (chk_ne i hi j hj hne).imp (fun z => hs _ z) (fun z => hs _ z)) hA
  refine ⟨adK, adV, ⟨z1, z2, z3, z4, z5⟩, ?_, ⟨hX, hbl, Nat.not_le.mpr hbl, hL⟩, fun w hw => va_Nw.of (BT_tables w hw) (hts w (BT_in w hw)), ⟨va_Nc.of (hs _ (by decide +kernel)), va_Nc.of (hs _ (by decide +kernel)), va_Nc.of (hs _ (by decide +kernel)), va_Nc.of (hs _ (by decide +kernel)), va_Nc.of (hs _ (by decide +kernel)), va_Nc.of (hs _ (by decide +kernel))⟩, va_AO.of (hts _ (by decide +kernel))⟩
  intro r hr
  simp only [srefs, List.mem_cons, List.not_mem_nil, or_false] at hr
  rcases hr with rfl | rfl | rfl | rfl | rfl | rfl | rfl | rfl | rfl | rfl | rfl | rfl | rfl | rfl
  · exact vk_R.of (hts _ (by decide +kernel)) (hev 0 (by decide))
  · exact vk_R.of (hts _ (by decide +kernel)) (hev 1 (by decide))
  · exact vk_R.of (hts _ (by decide +kernel)) (hev 2 (by decide))
  · exact vk_R.of (hts _ (by decide +kernel)) (hev 3 (by decide))
  · exact vk_R.of (hts _ (by decide +kernel)) (hev 4 (by decide))
  · exact vk_R.of (hts _ (by decide +kernel)) (hev 5 (by decide))
  · exact vk_R.of (hts _ (by decide +kernel)) (hev 6 (by decide))
  · refine vk_R.of (hts _ (by decide +kernel)) ?_
    have hq : (Cond.eq (.string "LetterAuction$Reader" 52) (.string "LetterAuctionModel" 197)).before #[Value.ref b] s = true := hs _ (by decide +kernel)
    obtain ⟨v, hv1, hv2⟩ := Cond.eq_one hq
    have h3 := hev 0 (by decide)
    have h4 : (Term.string "LetterAuction$Reader" 52).eval #[Value.ref b] s none [] s = some (.ref (adK 0)) := h3
    cases hv1.symm.trans h4
    exact hv2
  · refine vk_R.of (hts _ (by decide +kernel)) ?_
    have hq : (Cond.eq (.string "LetterAuction$Reader" 82) (.string "LetterAuctionModel" 168)).before #[Value.ref b] s = true := hs _ (by decide +kernel)
    obtain ⟨v, hv1, hv2⟩ := Cond.eq_one hq
    have h3 := hev 1 (by decide)
    have h4 : (Term.string "LetterAuction$Reader" 82).eval #[Value.ref b] s none [] s = some (.ref (adK 1)) := h3
    cases hv1.symm.trans h4
    exact hv2
  · refine vk_R.of (hts _ (by decide +kernel)) ?_
    have hq : (Cond.eq (.string "LetterAuction$Reader" 128) (.string "LetterAuctionModel" 145)).before #[Value.ref b] s = true := hs _ (by decide +kernel)
    obtain ⟨v, hv1, hv2⟩ := Cond.eq_one hq
    have h3 := hev 2 (by decide)
    have h4 : (Term.string "LetterAuction$Reader" 128).eval #[Value.ref b] s none [] s = some (.ref (adK 2)) := h3
    cases hv1.symm.trans h4
    exact hv2
  · refine vk_R.of (hts _ (by decide +kernel)) ?_
    have hq : (Cond.eq (.string "LetterAuction$Reader" 92) (.string "LetterAuctionModel" 173)).before #[Value.ref b] s = true := hs _ (by decide +kernel)
    obtain ⟨v, hv1, hv2⟩ := Cond.eq_one hq
    have h3 := hev 4 (by decide)
    have h4 : (Term.string "LetterAuction$Reader" 92).eval #[Value.ref b] s none [] s = some (.ref (adK 4)) := h3
    cases hv1.symm.trans h4
    exact hv2
  · refine vk_R.of (hts _ (by decide +kernel)) ?_
    have hq : (Cond.eq (.string "LetterAuction$Reader" 94) (.string "LetterAuctionModel" 178)).before #[Value.ref b] s = true := hs _ (by decide +kernel)
    obtain ⟨v, hv1, hv2⟩ := Cond.eq_one hq
    have h3 := hev 5 (by decide)
    have h4 : (Term.string "LetterAuction$Reader" 94).eval #[Value.ref b] s none [] s = some (.ref (adK 5)) := h3
    cases hv1.symm.trans h4
    exact hv2
  · refine vk_R.of (hts _ (by decide +kernel)) ?_
    have hq : (Cond.eq (.string "LetterAuction$Reader" 96) (.string "LetterAuctionModel" 183)).before #[Value.ref b] s = true := hs _ (by decide +kernel)
    obtain ⟨v, hv1, hv2⟩ := Cond.eq_one hq
    have h3 := hev 6 (by decide)
    have h4 : (Term.string "LetterAuction$Reader" 96).eval #[Value.ref b] s none [] s = some (.ref (adK 6)) := h3
    cases hv1.symm.trans h4
    exact hv2
  · refine vk_R.of (hts _ (by decide +kernel)) ?_
    have hq : (Cond.eq (.string "LetterAuction$Reader" 87) (.string "LetterAuctionModel" 188)).before #[Value.ref b] s = true := hs _ (by decide +kernel)
    obtain ⟨v, hv1, hv2⟩ := Cond.eq_one hq
    have h3 := hev 3 (by decide)
    have h4 : (Term.string "LetterAuction$Reader" 87).eval #[Value.ref b] s none [] s = some (.ref (adK 3)) := h3
    cases hv1.symm.trans h4
    exact hv2
theorem flags_tr {l : Launch} (h : l.flags = flags0) : l.stackTraces = false := by
  unfold Launch.stackTraces
  rw [h]
  decide
/-- the contents at the start: the script -/
def h0S (L : Nat) (xs : Nat → Int32) : PC := (fun _ _ => 0, fun _ _ => 0, fun j => if j = -1 then (L : Int) else (xs j.toNat).toInt)
/-- the claim's room is measured anew at every TURN and may differ by one: what is needed of it is far less -/
theorem room_enough : 10000 ≤ room_1.cells ∧ 200000 ≤ room_1.slots := by decide +kernel
/-- the law's run, as the pure machine has it -/
def LawRuns : Prop := ∀ (L : Nat) (xs : Nat → Int32), L ≤ 6 → ∃ (f : Nat) (lay' : PY) (nx' : Nat) (h' : PC), prun f 257 (0, entL [pR (-1000)] 8, [], [], 0, h0S L xs) = some (Sum.inl (some (pI 1)), lay', nx', h') ∧ lay'.length + nx' ≤ room_1.cells ∧ szs lay' + 6 * nx' ≤ room_1.slots
theorem whole_of (hok : AllOk) (hrun : LawRuns) {p : Program} {e : Env} {s : State} {m : MethodId} {below : List Frame} {meth : Method} {c : Code} (l : Launch) (hflags : l.flags = flags0) {b L : Nat} {xs : Nat → Int32} (hL : L ≤ 6) (C0 : lw_At p s m meth c b L xs) : W p l e room_1 s m #[Value.ref b] below meth c s.heap [] 0 0 (lw_Z below #[Value.ref b] s) (entryFrame m ([Value.ref b] : List Value).toArray 8) := by
  obtain ⟨hx, hb, hr, hml, hown, hts, hX, hbl, hlocks, hgv, hex⟩ := C0
  obtain ⟨f, lay', nx', h', hrn, hr1, hr2⟩ := hrun L xs hL
  have hGT : ∀ w ∈ GT, w.before #[Value.ref b] s = true := fun w hw => hts w (GT_in hw).1
  obtain ⟨D, hK⟩ := top_known hGT
  obtain ⟨adK, adV, hE⟩ := top_env hts hgv hX hbl (by omega)
  have hxl : mtab[257]? = some mi_L_law := rfl
  have C : CX p l room_1 s m #[Value.ref b] meth c (fun q => s.heap.size ≤ q) adK adV b L xs mi_L_law :=
    ⟨⟨hx, hb, hr, hml, hown⟩, ⟨hGT, hlocks, hex, fun h => absurd h (by decide)⟩, by decide, by decide, fun q h => h, hE, flags_tr hflags⟩
  have G := sound hok l (flags_tr hflags) f 257 _ _ lay' nx' h' mi_L_law hrn hxl p e room_1 s m #[Value.ref b] below meth c D (fun q => s.heap.size ≤ q) adK adV b L xs 0 0 (lay'.length + nx') (szs lay' + 6 * nx') [] C (by omega) (by omega) hr1 hr2
  have hT : TRel [] adK b [pR (-1000)] [Value.ref b] := ⟨Or.inr (Or.inr (Or.inl ⟨rfl, rfl⟩)), trivial⟩
  rw [lg_entry_eq]
  have K := G [] s.heap [] 0 0 _ [] (List.prefix_refl _) ⟨[], [], rfl, hK, fun k q h => by simp at h, ⟨fun i j p q h => by simp at h, fun k q h => by simp at h⟩, va_S.rf, ⟨rfl, fun i q h => by simp at h⟩, ⟨fun j hj => ?_, ?_⟩, rfl, rfl⟩ (ent_rel (nL := 8) hT (by decide)) (fun h => by cases h) trivial
  · intro T hTh X
    obtain ⟨t, a1, o, b1, b2, b3⟩ := K T hTh X
    refine ⟨t, a1, o, b1, b2, ?_⟩
    rcases b3 with ⟨⟨⟨r, u, ho, hr9, -⟩, -⟩, Lc, ⟨g1, g2, g3⟩, hfree⟩ | ⟨q9, rfl, E, ce, Lc, ⟨u, hu, -⟩, -⟩
    · have hr1' : r = 1 := Int32.toInt_inj.mp (by rw [hr9]; rfl)
      subst hr1'
      refine ⟨ho, ⟨_, ho⟩, g2, ?_⟩
      obtain ⟨k1, k2, k3, k4, k5, k6⟩ := g3
      refine ⟨k1, k2, by omega, k4, by omega, fun a cc ha => ?_⟩
      obtain ⟨c', m1, m2, m3, m4⟩ := k6 a cc ha
      refine ⟨c', m1, m2, m3, fun i _ => m4 i (fun hin => ?_)⟩
      have := hfree _ hin
      have hlt : a < s.heap.size := (Array.getElem?_eq_some_iff.mp ha).1
      exact absurd this (Nat.not_le.mpr hlt)
    · exact hu.elim
  · show (if ((j : Nat) : Int) = -1 then (L : Int) else (xs ((j : Nat) : Int).toNat).toInt) = _
    rw [if_neg (by omega), Int.toNat_natCast]
  · show (if (-1 : Int) = -1 then (L : Int) else (xs (-1 : Int).toNat).toInt) = _
    rw [if_pos rfl]
