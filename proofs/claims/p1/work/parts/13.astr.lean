/-! STRING CONSTANTS: length() and charAt(k) of the seven, by the JDK's own code -/
def SE (A : Nat → Prop) (adK adV : Nat → Nat) (U : State) : Prop := vk_S 7 lenS bytS adK adV A U U.heap ∧ va_Z "java/lang/String" "COMPACT_STRINGS" "Z" (.int 1) A U U.heap ∧ vx_Zq "jdk/internal/util/Preconditions" "SIOOBE_FORMATTER" "Ljava/util/function/BiFunction;" A U U.heap
theorem SE.same {A : Nat → Prop} {adK adV : Nat → Nat} {s U : State} (h : SE A adK adV s) (hvm : U.vm = s.vm) (hU : U.heap = s.heap) : SE A adK adV U := by
  have hv : s.vm.Alike U.vm := by rw [hvm]; exact Vm.Alike.refl _
  unfold SE
  rw [hU]
  exact ⟨h.1.moved hv, h.2.1.moved hv, h.2.2.moved hv⟩
theorem SE.call {s U : State} {A : Nat → Prop} {adK adV : Nat → Nat} {H : Heap} {locs : List Loc} (hE : SE A adK adV s) (hS : va_S A s.heap H locs) (hW : s.WarmedH U.vm) (hU : U.heap = H) : SE A adK adV U := by
  subst hU
  exact ⟨(hE.1.kept hS.2.1).moved hW.alike, (hE.2.1.kept hS.2.1).moved hW.alike, (hE.2.2.kept hS.2.1).moved hW.alike⟩
theorem SE.of {s : State} {A : Nat → Prop} {adK adV : Nat → Nat} {b Ls : Nat} {xs : Nat → Int32} (h : EnvR s A adK adV b Ls xs) : SE A adK adV s := ⟨h.1.2.2.1, h.1.2.2.2.1, h.1.2.2.2.2⟩
def sPc (A : Nat → Prop) (adK adV : Nat → Nat) (vs : List Value) : Array Value → State → Prop := va_Pc vs (SE A adK adV)
theorem sPc.blind {A : Nat → Prop} {adK adV : Nat → Nat} {vs : List Value} : FrameBlind (sPc A adK adV vs) := fun a U g mk h => ⟨h.1, SE.same (U := U.calling g mk a) h.2 rfl rfl⟩
def sQi (x : Int32) : Array Value → State → Outcome → State → Prop := va_Qi (fun (r : Int32) (_ : Unit) => r = x) (fun _ _ => True) (fun _ => False)
def sQv : Array Value → State → Outcome → State → Prop := va_Qv (fun (_ : Unit) => True) (fun _ _ => True) (fun _ => False)
def sRm (d : Nat) : Room := { frames := d, cells := 0, slots := 0, locals := 41 * d }

abbrev yS_length : MethodName := ⟨"java/lang/String", "length", "()I"⟩
abbrev wS_length : List Cond := .code yS_length prog_18_method_54_code 1 (some .int) :: GT
abbrev yS_charAt : MethodName := ⟨"java/lang/String", "charAt", "(I)C"⟩
abbrev wS_charAt : List Cond := .code yS_charAt prog_18_method_56_code 2 (some .char) :: GT
abbrev yS_coder : MethodName := ⟨"java/lang/String", "coder", "()B"⟩
abbrev wS_coder : List Cond := .code yS_coder prog_18_method_152_code 1 (some .byte) :: GT
abbrev yS_isLatin1 : MethodName := ⟨"java/lang/String", "isLatin1", "()Z"⟩
abbrev wS_isLatin1 : List Cond := .code yS_isLatin1 prog_18_method_154_code 1 (some .boolean) :: GT
abbrev yS_sci : MethodName := ⟨"java/lang/String", "checkIndex", "(II)V"⟩
abbrev wS_sci : List Cond := .code yS_sci prog_18_method_155_code 2 none :: GT
abbrev yS_lcharAt : MethodName := ⟨"java/lang/StringLatin1", "charAt", "([BI)C"⟩
abbrev wS_lcharAt : List Cond := .code yS_lcharAt prog_19_method_2_code 2 (some .char) :: GT
abbrev yS_pci : MethodName := ⟨"jdk/internal/util/Preconditions", "checkIndex", "(IILjava/util/function/BiFunction;)I"⟩
abbrev wS_pci : List Cond := .code yS_pci prog_24_method_11_code 3 (some .int) :: GT
theorem strGT : (Cond.code yS_length prog_18_method_54_code 1 (some .int) ∈ GT ∧ Cond.code yS_charAt prog_18_method_56_code 2 (some .char) ∈ GT ∧ Cond.code yS_coder prog_18_method_152_code 1 (some .byte) ∈ GT ∧ Cond.code yS_isLatin1 prog_18_method_154_code 1 (some .boolean) ∈ GT ∧ Cond.code yS_sci prog_18_method_155_code 2 none ∈ GT ∧ Cond.code yS_lcharAt prog_19_method_2_code 2 (some .char) ∈ GT ∧ Cond.code yS_pci prog_24_method_11_code 3 (some .int) ∈ GT) := by decide +kernel
theorem strGT2 : ∀ w ∈ ([.methodLink "java/lang/String" 335 yS_coder, .methodLink "java/lang/String" 492 yS_isLatin1, .methodLink "java/lang/String" 495 yS_lcharAt, .methodLink "java/lang/StringLatin1" 9 yS_sci, .methodLink "java/lang/String" 1059 yS_pci, .instanceMethod yS_length, .instanceMethod yS_coder, .instanceMethod yS_charAt, .instanceMethod yS_isLatin1, .selects "java/lang/String" yS_length yS_length, .selects "java/lang/String" yS_coder yS_coder, .selects "java/lang/String" yS_charAt yS_charAt, .selects "java/lang/String" yS_isLatin1 yS_isLatin1, .static yS_lcharAt, .static yS_sci, .static yS_pci, .initialized "java/lang/String", .initialized "java/lang/StringLatin1", .initialized "jdk/internal/util/Preconditions", .fieldLink "java/lang/String" 38 "java/lang/String" "COMPACT_STRINGS" "Z", .fieldLink "java/lang/String" 1053 "jdk/internal/util/Preconditions" "SIOOBE_FORMATTER" "Ljava/util/function/BiFunction;", .fieldLink "java/lang/String" 9 "java/lang/String" "value" "[B", .fieldLink "java/lang/String" 15 "java/lang/String" "coder" "B"] : List Cond), w ∈ GT := by decide +kernel
theorem dS_length_0 : decode prog_18_method_54_code 0 = .ok (.aload_n 0, 1) := by decide +kernel
theorem dS_length_1 : decode prog_18_method_54_code 1 = .ok (.getfield 9, 3) := by decide +kernel
theorem dS_length_4 : decode prog_18_method_54_code 4 = .ok (.arraylength, 1) := by decide +kernel
theorem dS_length_5 : decode prog_18_method_54_code 5 = .ok (.aload_n 0, 1) := by decide +kernel
theorem dS_length_6 : decode prog_18_method_54_code 6 = .ok (.invokevirtual 335, 3) := by decide +kernel
theorem dS_length_9 : decode prog_18_method_54_code 9 = .ok (.ishr, 1) := by decide +kernel
theorem dS_length_10 : decode prog_18_method_54_code 10 = .ok (.ireturn, 1) := by decide +kernel
theorem dS_charAt_0 : decode prog_18_method_56_code 0 = .ok (.aload_n 0, 1) := by decide +kernel
theorem dS_charAt_1 : decode prog_18_method_56_code 1 = .ok (.invokevirtual 492, 3) := by decide +kernel
theorem dS_charAt_4 : decode prog_18_method_56_code 4 = .ok (.ifCond .eq 12, 3) := by decide +kernel
theorem dS_charAt_7 : decode prog_18_method_56_code 7 = .ok (.aload_n 0, 1) := by decide +kernel
theorem dS_charAt_8 : decode prog_18_method_56_code 8 = .ok (.getfield 9, 3) := by decide +kernel
theorem dS_charAt_11 : decode prog_18_method_56_code 11 = .ok (.iload_n 1, 1) := by decide +kernel
theorem dS_charAt_12 : decode prog_18_method_56_code 12 = .ok (.invokestatic 495, 3) := by decide +kernel
theorem dS_charAt_15 : decode prog_18_method_56_code 15 = .ok (.ireturn, 1) := by decide +kernel
theorem dS_charAt_16 : decode prog_18_method_56_code 16 = .ok (.aload_n 0, 1) := by decide +kernel
theorem dS_charAt_17 : decode prog_18_method_56_code 17 = .ok (.getfield 9, 3) := by decide +kernel
theorem dS_charAt_20 : decode prog_18_method_56_code 20 = .ok (.iload_n 1, 1) := by decide +kernel
theorem dS_charAt_21 : decode prog_18_method_56_code 21 = .ok (.invokestatic 498, 3) := by decide +kernel
theorem dS_charAt_24 : decode prog_18_method_56_code 24 = .ok (.ireturn, 1) := by decide +kernel
theorem dS_coder_0 : decode prog_18_method_152_code 0 = .ok (.getstatic 38, 3) := by decide +kernel
theorem dS_coder_3 : decode prog_18_method_152_code 3 = .ok (.ifCond .eq 10, 3) := by decide +kernel
theorem dS_coder_6 : decode prog_18_method_152_code 6 = .ok (.aload_n 0, 1) := by decide +kernel
theorem dS_coder_7 : decode prog_18_method_152_code 7 = .ok (.getfield 15, 3) := by decide +kernel
theorem dS_coder_10 : decode prog_18_method_152_code 10 = .ok (.goto 4, 3) := by decide +kernel
theorem dS_coder_13 : decode prog_18_method_152_code 13 = .ok (.iconst 1, 1) := by decide +kernel
theorem dS_coder_14 : decode prog_18_method_152_code 14 = .ok (.ireturn, 1) := by decide +kernel
theorem dS_isLatin1_0 : decode prog_18_method_154_code 0 = .ok (.getstatic 38, 3) := by decide +kernel
theorem dS_isLatin1_3 : decode prog_18_method_154_code 3 = .ok (.ifCond .eq 14, 3) := by decide +kernel
theorem dS_isLatin1_6 : decode prog_18_method_154_code 6 = .ok (.aload_n 0, 1) := by decide +kernel
theorem dS_isLatin1_7 : decode prog_18_method_154_code 7 = .ok (.getfield 15, 3) := by decide +kernel
theorem dS_isLatin1_10 : decode prog_18_method_154_code 10 = .ok (.ifCond .ne 7, 3) := by decide +kernel
theorem dS_isLatin1_13 : decode prog_18_method_154_code 13 = .ok (.iconst 1, 1) := by decide +kernel
theorem dS_isLatin1_14 : decode prog_18_method_154_code 14 = .ok (.goto 4, 3) := by decide +kernel
theorem dS_isLatin1_17 : decode prog_18_method_154_code 17 = .ok (.iconst 0, 1) := by decide +kernel
theorem dS_isLatin1_18 : decode prog_18_method_154_code 18 = .ok (.ireturn, 1) := by decide +kernel
theorem dS_sci_0 : decode prog_18_method_155_code 0 = .ok (.iload_n 0, 1) := by decide +kernel
theorem dS_sci_1 : decode prog_18_method_155_code 1 = .ok (.iload_n 1, 1) := by decide +kernel
theorem dS_sci_2 : decode prog_18_method_155_code 2 = .ok (.getstatic 1053, 3) := by decide +kernel
theorem dS_sci_5 : decode prog_18_method_155_code 5 = .ok (.invokestatic 1059, 3) := by decide +kernel
theorem dS_sci_8 : decode prog_18_method_155_code 8 = .ok (.pop, 1) := by decide +kernel
theorem dS_sci_9 : decode prog_18_method_155_code 9 = .ok (.return_, 1) := by decide +kernel
theorem dS_lcharAt_0 : decode prog_19_method_2_code 0 = .ok (.iload_n 1, 1) := by decide +kernel
theorem dS_lcharAt_1 : decode prog_19_method_2_code 1 = .ok (.aload_n 0, 1) := by decide +kernel
theorem dS_lcharAt_2 : decode prog_19_method_2_code 2 = .ok (.arraylength, 1) := by decide +kernel
theorem dS_lcharAt_3 : decode prog_19_method_2_code 3 = .ok (.invokestatic 9, 3) := by decide +kernel
theorem dS_lcharAt_6 : decode prog_19_method_2_code 6 = .ok (.aload_n 0, 1) := by decide +kernel
theorem dS_lcharAt_7 : decode prog_19_method_2_code 7 = .ok (.iload_n 1, 1) := by decide +kernel
theorem dS_lcharAt_8 : decode prog_19_method_2_code 8 = .ok (.baload, 1) := by decide +kernel
theorem dS_lcharAt_9 : decode prog_19_method_2_code 9 = .ok (.sipush 255, 3) := by decide +kernel
theorem dS_lcharAt_12 : decode prog_19_method_2_code 12 = .ok (.iand, 1) := by decide +kernel
theorem dS_lcharAt_13 : decode prog_19_method_2_code 13 = .ok (.i2c, 1) := by decide +kernel
theorem dS_lcharAt_14 : decode prog_19_method_2_code 14 = .ok (.ireturn, 1) := by decide +kernel
theorem dS_pci_0 : decode prog_24_method_11_code 0 = .ok (.iload_n 0, 1) := by decide +kernel
theorem dS_pci_1 : decode prog_24_method_11_code 1 = .ok (.ifCond .lt 8, 3) := by decide +kernel
theorem dS_pci_4 : decode prog_24_method_11_code 4 = .ok (.iload_n 0, 1) := by decide +kernel
theorem dS_pci_5 : decode prog_24_method_11_code 5 = .ok (.iload_n 1, 1) := by decide +kernel
theorem dS_pci_6 : decode prog_24_method_11_code 6 = .ok (.if_icmp .lt 10, 3) := by decide +kernel
theorem dS_pci_9 : decode prog_24_method_11_code 9 = .ok (.aload_n 2, 1) := by decide +kernel
theorem dS_pci_10 : decode prog_24_method_11_code 10 = .ok (.iload_n 0, 1) := by decide +kernel
theorem dS_pci_11 : decode prog_24_method_11_code 11 = .ok (.iload_n 1, 1) := by decide +kernel
theorem dS_pci_12 : decode prog_24_method_11_code 12 = .ok (.invokestatic 95, 3) := by decide +kernel
theorem dS_pci_15 : decode prog_24_method_11_code 15 = .ok (.athrow, 1) := by decide +kernel
theorem dS_pci_16 : decode prog_24_method_11_code 16 = .ok (.iload_n 0, 1) := by decide +kernel
theorem dS_pci_17 : decode prog_24_method_11_code 17 = .ok (.ireturn, 1) := by decide +kernel
set_option maxHeartbeats 1000000 in
theorem m_coder (l : Launch) (A : Nat → Prop) (adK adV : Nat → Nat) {i : Nat} (hi : i < 7) : Met l yS_coder wS_coder (sRm 0) (sPc A adK adV [.ref (adK i)]) (sQi 0) 0 0 (fun _ => False) := by
  refine Met.ofW (cc := prog_18_method_152_code) (maxL := 1) (ret := (some .byte)) (by decide) rfl ?_
  intro p e s m args below meth c s₁ B hml hv
  obtain ⟨rfl, hE⟩ := hv
  have hx := B.exec
  have hb := B.bytes
  have hr := B.returns
  have hts := atoms_spec (ws := wS_coder) B.pre
  have C9 : ∀ w ∈ GT, w.before ([.ref (adK i)] : List Value).toArray s = true := fun w hw => hts w (List.mem_cons_of_mem _ hw)
  have hown : s.vm.findClass "java/lang/String" = some m.cls := findClass_of_methodNamed B.named
  have hlocks := B.notSynchronized
  have hS : va_S A s.heap s.heap [] := va_S.rf
  have hS0 : va_S (fun _ => False) s.heap s.heap [] := va_S.rf
  have hl := lv_entry ([.ref (adK i)]) (n := 1) (Nat.le_of_ble_eq_true rfl)
  rw [lg_entry_eq]
  generalize (lg_sl ([.ref (adK i)]) ++ List.replicate (1 - (lg_sl ([.ref (adK i)])).length) Slot.unset).toArray = ls at hl ⊢
  have hl : lv_has ls 1 [(0, .ref (adK i))] := hl
  refine va_gets hx hb hE.2.1 hS hown (C9 _ (strGT2 _ (List.mem_of_getElem? (i := 19) rfl))) (fun _ h => h) dS_coder_0 ?_
  refine lv_if_eq (tgt := 13) hx hb dS_coder_3 (by decide) (fun h => absurd h (by decide)) (fun _ => ?_)
  refine lv_aload_n hx hb dS_coder_6 rfl (lv_at hl 0 rfl) ?_
  refine vk_getf hx hb (hE.1.1 i hi).2.1 hS hown (C9 _ (strGT2 _ (List.mem_of_getElem? (i := 22) rfl))) (fun _ h => h) dS_coder_7 ?_
  refine lv_goto (tgt := 14) hx hb dS_coder_10 (by decide) ?_
  exact W.zret hx hb hr rfl (fun t ht hW => ⟨⟨0, (), rfl, rfl, trivial⟩, hS0.F ht⟩) (fun _ h => by cases h) dS_coder_14
set_option maxHeartbeats 1000000 in
theorem m_isLatin1 (l : Launch) (A : Nat → Prop) (adK adV : Nat → Nat) {i : Nat} (hi : i < 7) : Met l yS_isLatin1 wS_isLatin1 (sRm 0) (sPc A adK adV [.ref (adK i)]) (sQi 1) 0 0 (fun _ => False) := by
  refine Met.ofW (cc := prog_18_method_154_code) (maxL := 1) (ret := (some .boolean)) (by decide) rfl ?_
  intro p e s m args below meth c s₁ B hml hv
  obtain ⟨rfl, hE⟩ := hv
  have hx := B.exec
  have hb := B.bytes
  have hr := B.returns
  have hts := atoms_spec (ws := wS_isLatin1) B.pre
  have C9 : ∀ w ∈ GT, w.before ([.ref (adK i)] : List Value).toArray s = true := fun w hw => hts w (List.mem_cons_of_mem _ hw)
  have hown : s.vm.findClass "java/lang/String" = some m.cls := findClass_of_methodNamed B.named
  have hlocks := B.notSynchronized
  have hS : va_S A s.heap s.heap [] := va_S.rf
  have hS0 : va_S (fun _ => False) s.heap s.heap [] := va_S.rf
  have hl := lv_entry ([.ref (adK i)]) (n := 1) (Nat.le_of_ble_eq_true rfl)
  rw [lg_entry_eq]
  generalize (lg_sl ([.ref (adK i)]) ++ List.replicate (1 - (lg_sl ([.ref (adK i)])).length) Slot.unset).toArray = ls at hl ⊢
  have hl : lv_has ls 1 [(0, .ref (adK i))] := hl
  refine va_gets hx hb hE.2.1 hS hown (C9 _ (strGT2 _ (List.mem_of_getElem? (i := 19) rfl))) (fun _ h => h) dS_isLatin1_0 ?_
  refine lv_if_eq (tgt := 17) hx hb dS_isLatin1_3 (by decide) (fun h => absurd h (by decide)) (fun _ => ?_)
  refine lv_aload_n hx hb dS_isLatin1_6 rfl (lv_at hl 0 rfl) ?_
  refine vk_getf hx hb (hE.1.1 i hi).2.1 hS hown (C9 _ (strGT2 _ (List.mem_of_getElem? (i := 22) rfl))) (fun _ h => h) dS_isLatin1_7 ?_
  refine lv_if_ne (tgt := 17) hx hb dS_isLatin1_10 (by decide) (fun h => absurd rfl h) (fun _ => ?_)
  refine lv_iconst (v := 1) hx hb dS_isLatin1_13 (by decide) ?_
  refine lv_goto (tgt := 18) hx hb dS_isLatin1_14 (by decide) ?_
  exact W.zret hx hb hr rfl (fun t ht hW => ⟨⟨1, (), rfl, rfl, trivial⟩, hS0.F ht⟩) (fun _ h => by cases h) dS_isLatin1_18
theorem sh0 : ∀ i, i < 7 → Int32.ofNat (lenS.getD i 0) >>> ((0 : Int32) &&& 31) = Int32.ofNat (lenS.getD i 0) := by decide +kernel
set_option maxHeartbeats 1000000 in
theorem m_length (l : Launch) (A : Nat → Prop) (adK adV : Nat → Nat) {i : Nat} (hi : i < 7) : Met l yS_length wS_length (sRm 1) (sPc A adK adV [.ref (adK i)]) (sQi (Int32.ofNat (lenS.getD i 0))) 0 0 (fun _ => False) := by
  refine Met.ofW (cc := prog_18_method_54_code) (maxL := 1) (ret := (some .int)) (by decide) rfl ?_
  intro p e s m args below meth c s₁ B hml hv
  obtain ⟨rfl, hE⟩ := hv
  have hx := B.exec
  have hb := B.bytes
  have hr := B.returns
  have hts := atoms_spec (ws := wS_length) B.pre
  have C9 : ∀ w ∈ GT, w.before ([.ref (adK i)] : List Value).toArray s = true := fun w hw => hts w (List.mem_cons_of_mem _ hw)
  have hown : s.vm.findClass "java/lang/String" = some m.cls := findClass_of_methodNamed B.named
  have hlocks := B.notSynchronized
  have hS : va_S A s.heap s.heap [] := va_S.rf
  have hS0 : va_S (fun _ => False) s.heap s.heap [] := va_S.rf
  have hl := lv_entry ([.ref (adK i)]) (n := 1) (Nat.le_of_ble_eq_true rfl)
  rw [lg_entry_eq]
  generalize (lg_sl ([.ref (adK i)]) ++ List.replicate (1 - (lg_sl ([.ref (adK i)])).length) Slot.unset).toArray = ls at hl ⊢
  have hl : lv_has ls 1 [(0, .ref (adK i))] := hl
  refine lv_aload_n hx hb dS_length_0 rfl (lv_at hl 0 rfl) ?_
  refine vk_getf hx hb (hE.1.1 i hi).2.2.1 hS hown (C9 _ (strGT2 _ (List.mem_of_getElem? (i := 21) rfl))) (fun _ h => h) dS_length_1 ?_
  refine va_tlen hx hb (hE.1.1 i hi).2.2.2 hS rfl dS_length_4 ?_
  refine lv_aload_n hx hb dS_length_5 rfl (lv_at hl 0 rfl) ?_
  refine va_calli (va_runV (As := []) (rest := [.int (Int32.ofNat (lenS.getD i 0))]) ⟨hx, hb, hml, hown, C9⟩ (m_coder l A adK adV hi) (cwV 0 C9 (GT_good (fun w h => by simp only [wsV, List.cons_append, List.nil_append, List.mem_cons] at h; rcases h with rfl | rfl | rfl | rfl | rfl | h; exact strGT2 _ (List.mem_of_getElem? (i := 0) rfl); exact strGT2 _ (List.mem_of_getElem? (i := 6) rfl); exact strGT2 _ (List.mem_of_getElem? (i := 10) rfl); exact strGT2 _ (List.mem_of_getElem? (i := 16) rfl); exact strGT.2.2.1; exact h)) rfl rfl rfl (by decide) ⟨by decide, by decide⟩) ⟨sPc.blind, vk_recv hE.1 hi hS, fun U hU hW => ⟨rfl, hE.call hS hW hU⟩⟩ rfl rfl hl.1 rfl (lv_room (by exact Nat.le_of_ble_eq_true rfl)) dS_length_6 ⟨Nat.zero_le _, Nat.zero_le _⟩) hS0 (fun _ _ h => h) (fun _ h => h) (fun r u t H1 locs ht hvm hw hB hz1 hk1 hS1 => ?_)
  subst hw
  refine lv_ishr hx hb dS_length_9 ?_
  exact W.iret hx hb hr (fun t ht hW => ⟨⟨_, (), rfl, sh0 i hi, trivial⟩, hS1.F ht⟩) hS1.2.2 dS_length_10
set_option maxHeartbeats 1000000 in
theorem m_pci (l : Launch) (A : Nat → Prop) (adK adV : Nat → Nat) {k n : Int32} {v : Value} (h0 : ¬ k < 0) (hv2 : v = .null ∨ ∃ t : Nat, v = .ref t) (h1 : k < n) : Met l yS_pci wS_pci (sRm 0) (sPc A adK adV [.int k, .int n, v]) (sQi k) 0 0 (fun _ => False) := by
  refine Met.ofW (cc := prog_24_method_11_code) (maxL := 3) (ret := (some .int)) (by decide) rfl ?_
  intro p e s m args below meth c s₁ B hml hv
  obtain ⟨rfl, hE⟩ := hv
  have hx := B.exec
  have hb := B.bytes
  have hr := B.returns
  have hts := atoms_spec (ws := wS_pci) B.pre
  have C9 : ∀ w ∈ GT, w.before ([.int k, .int n, v] : List Value).toArray s = true := fun w hw => hts w (List.mem_cons_of_mem _ hw)
  have hown : s.vm.findClass "jdk/internal/util/Preconditions" = some m.cls := findClass_of_methodNamed B.named
  have hlocks := B.notSynchronized
  have hS : va_S A s.heap s.heap [] := va_S.rf
  have hS0 : va_S (fun _ => False) s.heap s.heap [] := va_S.rf
  have hl := lv_entry ([.int k, .int n, v]) (n := 3) (by rcases hv2 with rfl | ⟨t, rfl⟩ <;> exact Nat.le_of_ble_eq_true rfl)
  rw [lg_entry_eq]
  generalize (lg_sl ([.int k, .int n, v]) ++ List.replicate (3 - (lg_sl ([.int k, .int n, v])).length) Slot.unset).toArray = ls at hl ⊢
  have hl : lv_has ls 3 [(0, .int k), (1, .int n), (2, v)] := hl
  refine lv_iload_n hx hb dS_pci_0 rfl (lv_at hl 0 rfl) ?_
  refine lv_if_lt (tgt := 9) hx hb dS_pci_1 (by decide) (fun h => absurd h h0) (fun _ => ?_)
  refine lv_iload_n hx hb dS_pci_4 rfl (lv_at hl 0 rfl) ?_
  refine lv_iload_n hx hb dS_pci_5 rfl (lv_at hl 1 rfl) ?_
  refine lv_icmp_lt (tgt := 16) hx hb dS_pci_6 (by decide) (fun _ => ?_) (fun h => absurd h1 h)
  refine lv_iload_n hx hb dS_pci_16 rfl (lv_at hl 0 rfl) ?_
  exact W.iret hx hb hr (fun t ht hW => ⟨⟨k, (), rfl, rfl, trivial⟩, hS0.F ht⟩) (fun _ h => by cases h) dS_pci_17
set_option maxHeartbeats 1000000 in
theorem m_sci (l : Launch) (A : Nat → Prop) (adK adV : Nat → Nat) {k n : Int32} (h0 : ¬ k < 0) (h1 : k < n) : Met l yS_sci wS_sci (sRm 1) (sPc A adK adV [.int k, .int n]) (sQv) 0 0 (fun _ => False) := by
  refine Met.ofW (cc := prog_18_method_155_code) (maxL := 2) (ret := none) (by decide) rfl ?_
  intro p e s m args below meth c s₁ B hml hv
  obtain ⟨rfl, hE⟩ := hv
  have hx := B.exec
  have hb := B.bytes
  have hr := B.returns
  have hts := atoms_spec (ws := wS_sci) B.pre
  have C9 : ∀ w ∈ GT, w.before ([.int k, .int n] : List Value).toArray s = true := fun w hw => hts w (List.mem_cons_of_mem _ hw)
  have hown : s.vm.findClass "java/lang/String" = some m.cls := findClass_of_methodNamed B.named
  have hlocks := B.notSynchronized
  have hS : va_S A s.heap s.heap [] := va_S.rf
  have hS0 : va_S (fun _ => False) s.heap s.heap [] := va_S.rf
  have hl := lv_entry ([.int k, .int n]) (n := 2) (Nat.le_of_ble_eq_true rfl)
  rw [lg_entry_eq]
  generalize (lg_sl ([.int k, .int n]) ++ List.replicate (2 - (lg_sl ([.int k, .int n])).length) Slot.unset).toArray = ls at hl ⊢
  have hl : lv_has ls 2 [(0, .int k), (1, .int n)] := hl
  refine lv_iload_n hx hb dS_sci_0 rfl (lv_at hl 0 rfl) ?_
  refine lv_iload_n hx hb dS_sci_1 rfl (lv_at hl 1 rfl) ?_
  rcases hE.2.2.1 with hz | ⟨t0, hz⟩
  · refine va_gets hx hb hz hS hown (C9 _ (strGT2 _ (List.mem_of_getElem? (i := 20) rfl))) (fun _ h => h) dS_sci_2 ?_
    refine va_calli (va_runS (As := [.int k, .int n, .null]) (rest := []) ⟨hx, hb, hml, hown, C9⟩ (m_pci l A adK adV (v := .null) h0 (Or.inl rfl) h1) (va_cwS 3 C9 (GT_good (fun w h => by simp only [va_wsS, List.cons_append, List.nil_append, List.mem_cons] at h; rcases h with rfl | rfl | rfl | rfl | h; exact strGT2 _ (List.mem_of_getElem? (i := 4) rfl); exact strGT2 _ (List.mem_of_getElem? (i := 15) rfl); exact strGT2 _ (List.mem_of_getElem? (i := 18) rfl); exact strGT.2.2.2.2.2.2; exact h)) rfl rfl rfl (by decide) ⟨by decide, by decide⟩) ⟨sPc.blind, fun U hU hW => ⟨rfl, hE.call hS hW hU⟩⟩ rfl rfl hl.1 rfl (lv_room (by decide)) dS_sci_5 ⟨Nat.zero_le _, Nat.zero_le _⟩) hS0 (fun _ _ h => h) (fun _ h => h) (fun r u t H1 locs ht hvm hw hB hz1 hk1 hS1 => ?_)
    refine lv_pop hx hb dS_sci_8 rfl ?_
    exact W.vret hx hb hr (fun t ht hW => ⟨⟨(), rfl, trivial, trivial⟩, hS1.F ht⟩) hS1.2.2 dS_sci_9
  · refine va_gets hx hb hz hS hown (C9 _ (strGT2 _ (List.mem_of_getElem? (i := 20) rfl))) (fun _ h => h) dS_sci_2 ?_
    refine va_calli (va_runS (As := [.int k, .int n, .ref t0]) (rest := []) ⟨hx, hb, hml, hown, C9⟩ (m_pci l A adK adV (v := .ref t0) h0 (Or.inr ⟨t0, rfl⟩) h1) (va_cwS 3 C9 (GT_good (fun w h => by simp only [va_wsS, List.cons_append, List.nil_append, List.mem_cons] at h; rcases h with rfl | rfl | rfl | rfl | h; exact strGT2 _ (List.mem_of_getElem? (i := 4) rfl); exact strGT2 _ (List.mem_of_getElem? (i := 15) rfl); exact strGT2 _ (List.mem_of_getElem? (i := 18) rfl); exact strGT.2.2.2.2.2.2; exact h)) rfl rfl rfl (by decide) ⟨by decide, by decide⟩) ⟨sPc.blind, fun U hU hW => ⟨rfl, hE.call hS hW hU⟩⟩ rfl rfl hl.1 rfl (lv_room (by decide)) dS_sci_5 ⟨Nat.zero_le _, Nat.zero_le _⟩) hS0 (fun _ _ h => h) (fun _ h => h) (fun r u t H1 locs ht hvm hw hB hz1 hk1 hS1 => ?_)
    refine lv_pop hx hb dS_sci_8 rfl ?_
    exact W.vret hx hb hr (fun t ht hW => ⟨⟨(), rfl, trivial, trivial⟩, hS1.F ht⟩) hS1.2.2 dS_sci_9
theorem strk : ∀ i, i < 7 → ∀ j, j < lenS.getD i 0 → (¬ Int32.ofNat j < 0) ∧ Int32.ofNat j < Int32.ofNat (lenS.getD i 0) ∧ (¬ (Int32.ofNat j < 0 ∨ lenS.getD i 0 ≤ (Int32.ofNat j).toNatClampNeg)) ∧ (Int32.ofNat j).toNatClampNeg = j ∧ ((((bytS.getD i []).getD j 0) &&& (Int16.ofInt 255).toInt32).toUInt32 % 65536).toInt32 = Int32.ofNat ((pstrs.getD i []).getD j 0) ∧ narrow .char (.int (Int32.ofNat ((pstrs.getD i []).getD j 0))) = .int (Int32.ofNat ((pstrs.getD i []).getD j 0)) := by decide +kernel
set_option maxHeartbeats 1000000 in
theorem m_lcharAt (l : Launch) (A : Nat → Prop) (adK adV : Nat → Nat) {i : Nat} (hi : i < 7) {k : Int32} {j : Nat} (hk : j < lenS.getD i 0) (hkj : k = Int32.ofNat j) : Met l yS_lcharAt wS_lcharAt (sRm 2) (sPc A adK adV [.ref (adV i), .int k]) (sQi (Int32.ofNat ((pstrs.getD i []).getD j 0))) 0 0 (fun _ => False) := by
  refine Met.ofW (cc := prog_19_method_2_code) (maxL := 2) (ret := (some .char)) (by decide) rfl ?_
  intro p e s m args below meth c s₁ B hml hv
  obtain ⟨rfl, hE⟩ := hv
  have hx := B.exec
  have hb := B.bytes
  have hr := B.returns
  have hts := atoms_spec (ws := wS_lcharAt) B.pre
  have C9 : ∀ w ∈ GT, w.before ([.ref (adV i), .int k] : List Value).toArray s = true := fun w hw => hts w (List.mem_cons_of_mem _ hw)
  have hown : s.vm.findClass "java/lang/StringLatin1" = some m.cls := findClass_of_methodNamed B.named
  have hlocks := B.notSynchronized
  have hS : va_S A s.heap s.heap [] := va_S.rf
  have hS0 : va_S (fun _ => False) s.heap s.heap [] := va_S.rf
  have hl := lv_entry ([.ref (adV i), .int k]) (n := 2) (Nat.le_of_ble_eq_true rfl)
  rw [lg_entry_eq]
  generalize (lg_sl ([.ref (adV i), .int k]) ++ List.replicate (2 - (lg_sl ([.ref (adV i), .int k])).length) Slot.unset).toArray = ls at hl ⊢
  have hl : lv_has ls 2 [(0, .ref (adV i)), (1, .int k)] := hl
  obtain ⟨e1, e2, e3, e4⟩ := strk i hi j hk
  rw [← hkj] at e1 e2 e3
  refine lv_iload_n hx hb dS_lcharAt_0 rfl (lv_at hl 1 rfl) ?_
  refine lv_aload_n hx hb dS_lcharAt_1 rfl (lv_at hl 0 rfl) ?_
  refine va_tlen hx hb (hE.1.1 i hi).2.2.2 hS rfl dS_lcharAt_2 ?_
  refine va_callv (va_runS (As := [.int k, .int (Int32.ofNat (lenS.getD i 0))]) (rest := []) ⟨hx, hb, hml, hown, C9⟩ (m_sci l A adK adV e1 e2) (va_cwS 2 C9 (GT_good (fun w h => by simp only [va_wsS, List.cons_append, List.nil_append, List.mem_cons] at h; rcases h with rfl | rfl | rfl | rfl | h; exact strGT2 _ (List.mem_of_getElem? (i := 3) rfl); exact strGT2 _ (List.mem_of_getElem? (i := 14) rfl); exact strGT2 _ (List.mem_of_getElem? (i := 16) rfl); exact strGT.2.2.2.2.1; exact h)) rfl rfl rfl (by decide) ⟨by decide, by decide⟩) ⟨sPc.blind, fun U hU hW => ⟨rfl, hE.call hS hW hU⟩⟩ rfl rfl hl.1 rfl (lv_room (by decide)) dS_lcharAt_3 ⟨Nat.zero_le _, Nat.zero_le _⟩) hS0 (fun _ _ h => h) (fun _ h => h) (fun u t H1 locs ht hvm hw hB hz1 hk1 hS1 => ?_)
  have hH : ∀ q, q < s.heap.size → H1[q]? = s.heap[q]? := fun q h => hk1 q h (fun z => z)
  have hSA : va_S A s.heap H1 locs := ⟨hz1, fun q h _ => hH q h, fun z h => (hS1.2.2 z h).elim⟩
  refine lv_aload_n hx hb dS_lcharAt_6 rfl (lv_at hl 0 rfl) ?_
  refine lv_iload_n hx hb dS_lcharAt_7 rfl (lv_at hl 1 rfl) ?_
  refine va_tb hx hb (hE.1.1 i hi).2.2.2 hSA e3 rfl dS_lcharAt_8 ?_
  refine lv_sipush hx hb dS_lcharAt_9 rfl ?_
  refine lv_iand hx hb dS_lcharAt_12 ?_
  refine lv_i2c hx hb dS_lcharAt_13 rfl ?_
  have e5 : k.toNatClampNeg = j := by rw [hkj]; exact e4.1
  rw [e5, e4.2.1]
  exact W.zret hx hb hr e4.2.2 (fun t ht hW => ⟨⟨_, (), rfl, rfl, trivial⟩, hS1.F ht⟩) hS1.2.2 dS_lcharAt_14
set_option maxHeartbeats 1000000 in
theorem m_charAt (l : Launch) (A : Nat → Prop) (adK adV : Nat → Nat) {i : Nat} (hi : i < 7) {k : Int32} {j : Nat} (hk : j < lenS.getD i 0) (hkj : k = Int32.ofNat j) : Met l yS_charAt wS_charAt (sRm 3) (sPc A adK adV [.ref (adK i), .int k]) (sQi (Int32.ofNat ((pstrs.getD i []).getD j 0))) 0 0 (fun _ => False) := by
  refine Met.ofW (cc := prog_18_method_56_code) (maxL := 2) (ret := (some .char)) (by decide) rfl ?_
  intro p e s m args below meth c s₁ B hml hv
  obtain ⟨rfl, hE⟩ := hv
  have hx := B.exec
  have hb := B.bytes
  have hr := B.returns
  have hts := atoms_spec (ws := wS_charAt) B.pre
  have C9 : ∀ w ∈ GT, w.before ([.ref (adK i), .int k] : List Value).toArray s = true := fun w hw => hts w (List.mem_cons_of_mem _ hw)
  have hown : s.vm.findClass "java/lang/String" = some m.cls := findClass_of_methodNamed B.named
  have hlocks := B.notSynchronized
  have hS : va_S A s.heap s.heap [] := va_S.rf
  have hS0 : va_S (fun _ => False) s.heap s.heap [] := va_S.rf
  have hl := lv_entry ([.ref (adK i), .int k]) (n := 2) (Nat.le_of_ble_eq_true rfl)
  rw [lg_entry_eq]
  generalize (lg_sl ([.ref (adK i), .int k]) ++ List.replicate (2 - (lg_sl ([.ref (adK i), .int k])).length) Slot.unset).toArray = ls at hl ⊢
  have hl : lv_has ls 2 [(0, .ref (adK i)), (1, .int k)] := hl
  obtain ⟨e1, e2, e3, e4⟩ := strk i hi j hk
  refine lv_aload_n hx hb dS_charAt_0 rfl (lv_at hl 0 rfl) ?_
  refine va_calli (va_runV (As := []) (rest := []) ⟨hx, hb, hml, hown, C9⟩ (m_isLatin1 l A adK adV hi) (cwV 0 C9 (GT_good (fun w h => by simp only [wsV, List.cons_append, List.nil_append, List.mem_cons] at h; rcases h with rfl | rfl | rfl | rfl | rfl | h; exact strGT2 _ (List.mem_of_getElem? (i := 1) rfl); exact strGT2 _ (List.mem_of_getElem? (i := 8) rfl); exact strGT2 _ (List.mem_of_getElem? (i := 12) rfl); exact strGT2 _ (List.mem_of_getElem? (i := 16) rfl); exact strGT.2.2.2.1; exact h)) rfl rfl rfl (by decide) ⟨by decide, by decide⟩) ⟨sPc.blind, vk_recv hE.1 hi hS, fun U hU hW => ⟨rfl, hE.call hS hW hU⟩⟩ rfl rfl hl.1 rfl (lv_room (by decide)) dS_charAt_1 ⟨Nat.zero_le _, Nat.zero_le _⟩) hS0 (fun _ _ h => h) (fun _ h => h) (fun r u t H1 locs ht hvm hw hB hz1 hk1 hS1 => ?_)
  have hH : ∀ q, q < s.heap.size → H1[q]? = s.heap[q]? := fun q h => hk1 q h (fun z => z)
  have hSA : va_S A s.heap H1 locs := ⟨hz1, fun q h _ => hH q h, fun z h => (hS1.2.2 z h).elim⟩
  subst hw
  refine lv_if_eq (tgt := 16) hx hb dS_charAt_4 (by decide) (fun h => absurd h (by decide)) (fun _ => ?_)
  refine lv_aload_n hx hb dS_charAt_7 rfl (lv_at hl 0 rfl) ?_
  refine vk_getf hx hb (hE.1.1 i hi).2.2.1 hSA hown (C9 _ (strGT2 _ (List.mem_of_getElem? (i := 21) rfl))) (fun _ h => h) dS_charAt_8 ?_
  refine lv_iload_n hx hb dS_charAt_11 rfl (lv_at hl 1 rfl) ?_
  refine va_calli (va_runS (As := [.ref (adV i), .int k]) (rest := []) ⟨hx, hb, hml, hown, C9⟩ (m_lcharAt l A adK adV hi hk hkj) (va_cwS 2 C9 (GT_good (fun w h => by simp only [va_wsS, List.cons_append, List.nil_append, List.mem_cons] at h; rcases h with rfl | rfl | rfl | rfl | h; exact strGT2 _ (List.mem_of_getElem? (i := 2) rfl); exact strGT2 _ (List.mem_of_getElem? (i := 13) rfl); exact strGT2 _ (List.mem_of_getElem? (i := 17) rfl); exact strGT.2.2.2.2.2.1; exact h)) rfl rfl rfl (by decide) ⟨by decide, by decide⟩) ⟨sPc.blind, fun U hU hW => ⟨rfl, hE.call hSA hW hU⟩⟩ rfl rfl hl.1 rfl (lv_room (by decide)) dS_charAt_12 ⟨Nat.zero_le _, Nat.zero_le _⟩) hS1 (fun _ _ h => h) (fun _ h => h) (fun r u t H1 locs ht hvm hw hB hz2 hk2 hS2 => ?_)
  subst hw
  exact W.zret hx hb hr e4.2.2 (fun t ht hW => ⟨⟨_, (), rfl, rfl, trivial⟩, hS2.F ht⟩) hS2.2.2 dS_charAt_15
