/-! WHAT OF THE START STAYS: strings, the script, the statics that a throw reads, words that a warm machine keeps -/
def GT : List Cond := lw_tbl.filter goodWord
def exn : Nat → String
  | 0 => "java/lang/IllegalArgumentException" | 1 => "java/lang/IndexOutOfBoundsException" | _ => "java/lang/IllegalStateException"
def exUp : List String := ["java/lang/RuntimeException", "java/lang/Exception"]
def ATx (e ic : Nat) : List Cond := vx_at0 "LetterAuction" ic (exn e) exUp
def BTX : List Cond := ATx 0 115 ++ (ATx 1 284 ++ ATx 2 287)
def BTN : List Cond := [.methodLinkNest "LetterAuction" 9 ⟨"LetterAuction$Reader", "<init>", "()V"⟩ "LetterAuction", .methodLinkNest "LetterAuction$Reader" 21 ⟨"LetterAuction$Tokens", "<init>", "()V"⟩ "LetterAuction", .methodLinkNest "LetterAuction" 18 ⟨"LetterAuction$Bids", "<init>", "()V"⟩ "LetterAuction", .methodLinkNest "LetterAuction" 25 ⟨"LetterAuction$Search", "<init>", "()V"⟩ "LetterAuction", .methodLinkNest "LetterAuction$Past" 20 ⟨"LetterAuction$Standing", "<init>", "()V"⟩ "LetterAuction", .methodLinkNest "LetterAuction" 39 ⟨"LetterAuction$Standing", "<init>", "()V"⟩ "LetterAuction", .castable (exn 0) (exn 0), .castable (exn 1) (exn 1), .castable (exn 2) (exn 2)]
def BT : List Cond := BTX.filter (fun w => !goodWord w) ++ BTN
def isBk : Cond → Bool
  | .castable .. => true | .declares _ => true | .methodLinkNest .. => true | _ => false
theorem BT_kinds : ∀ w ∈ BT, isBk w = true := by decide +kernel
theorem BT_tables : ∀ w ∈ BT, w.onTables = true := by decide +kernel
theorem BT_in : ∀ w ∈ BT, w ∈ lw_tbl := by decide +kernel
theorem BTX_in : ∀ w ∈ BTX, w ∈ lw_tbl := by decide +kernel
theorem BTX_ot : ∀ w ∈ BTX, vx_ot w = true := by decide +kernel
theorem BT_warm {s U : State} (hW : s.WarmedH U.vm) {w : Cond} (hw : w ∈ BT) (h : va_Nw w s) : va_Nw w U := by
  have hk := BT_kinds w hw
  cases w <;> simp [isBk] at hk
  all_goals first | exact va_Nw.warmC hW h | exact va_Nw.warmD hW h | exact va_Nw.warmM hW h
def lenS : List Nat := [7, 7, 7, 4, 2, 6, 4]
def bytS : List (List Int32) := [[108, 101, 116, 116, 101, 114, 115], [109, 97, 99, 104, 105, 110, 101], [108, 105, 115, 116, 101, 110, 115], [116, 117, 114, 110], [103, 111], [97, 99, 99, 101, 112, 116], [116, 105, 114, 101]]
/-- the class files' string constants: class, entry, text, which of the seven -/
def srefs : List (String × Nat × String × Nat) := [("LetterAuction$Reader", 52, "letters", 0), ("LetterAuction$Reader", 82, "machine", 1), ("LetterAuction$Reader", 128, "listens", 2), ("LetterAuction$Reader", 87, "turn", 3), ("LetterAuction$Reader", 92, "go", 4), ("LetterAuction$Reader", 94, "accept", 5), ("LetterAuction$Reader", 96, "tire", 6), ("LetterAuctionModel", 197, "letters", 0), ("LetterAuctionModel", 168, "machine", 1), ("LetterAuctionModel", 145, "listens", 2), ("LetterAuctionModel", 173, "go", 4), ("LetterAuctionModel", 178, "accept", 5), ("LetterAuctionModel", 183, "tire", 6), ("LetterAuctionModel", 188, "turn", 3)]
def NCs (U : State) : Prop := va_Nc (exn 0) (exn 1) U ∧ va_Nc (exn 2) (exn 1) U ∧ va_Nc (exn 2) (exn 0) U ∧ va_Nc (exn 1) (exn 0) U ∧ va_Nc (exn 0) (exn 2) U ∧ va_Nc (exn 1) (exn 2) U
/-- what holds in every method: A is what it may write -/
def EnvR (s : State) (A : Nat → Prop) (adK adV : Nat → Nat) (b Ls : Nat) (xs : Nat → Int32) : Prop :=
  (vx_Zq Bundle.tN "UNASSIGNED_STACK" Bundle.steD A s s.heap ∧ vx_Zq Bundle.tN "SUPPRESSED_SENTINEL" Bundle.listD A s s.heap ∧ vk_S 7 lenS bytS adK adV A s s.heap ∧ va_Z "java/lang/String" "COMPACT_STRINGS" "Z" (.int 1) A s s.heap ∧ vx_Zq "jdk/internal/util/Preconditions" "SIOOBE_FORMATTER" "Ljava/util/function/BiFunction;" A s s.heap) ∧
  (∀ r ∈ srefs, vk_R r.1 r.2.1 r.2.2.1 (adK r.2.2.2) s) ∧ (va_X b Ls xs s s.heap ∧ b < s.heap.size ∧ ¬ A b ∧ Ls < 2147483648) ∧ (∀ w ∈ BT, va_Nw w s) ∧ NCs s ∧ va_AO "LetterAuction$Standing" s
theorem EnvR.call {s U : State} {A A' : Nat → Prop} {adK adV : Nat → Nat} {b Ls : Nat} {xs : Nat → Int32} {H : Heap} {locs : List Loc} (hE : EnvR s A adK adV b Ls xs) (hS : va_S A s.heap H locs) (hAA : ∀ q, A' q → A q) (hW : s.WarmedH U.vm) (hU : U.heap = H) : EnvR U A' adK adV b Ls xs := by
  obtain ⟨⟨e1, e2, e3, e4, e5⟩, e6, ⟨e7, e8, e9, e10⟩, e11, ⟨n1, n2, n3, n4, n5, n6⟩, e13⟩ := hE
  have hv := hW.alike
  subst hU
  refine ⟨⟨((e1.kept hS.2.1).moved hv).narrow hAA, ((e2.kept hS.2.1).moved hv).narrow hAA, ((e3.kept hS.2.1).moved hv).narrow hAA, ((e4.kept hS.2.1).moved hv).narrow hAA, ((e5.kept hS.2.1).moved hv).narrow hAA⟩, fun r hr => (e6 r hr).warm hW, ⟨(e7.kept (hS.2.1 b e8 e9)).moved hv, Nat.lt_of_lt_of_le e8 hS.1, fun z => e9 (hAA b z), e10⟩, fun w hw => BT_warm hW hw (e11 w hw), ⟨n1.moved hv, n2.moved hv, n3.moved hv, n4.moved hv, n5.moved hv, n6.moved hv⟩, e13.moved hv⟩
theorem EnvR.same {s U : State} {A : Nat → Prop} {adK adV : Nat → Nat} {b Ls : Nat} {xs : Nat → Int32} (hE : EnvR s A adK adV b Ls xs) (hvm : U.vm = s.vm) (hU : U.heap = s.heap) : EnvR U A adK adV b Ls xs := by
  obtain ⟨⟨e1, e2, e3, e4, e5⟩, e6, ⟨e7, e8, e9, e10⟩, e11, ⟨n1, n2, n3, n4, n5, n6⟩, e13⟩ := hE
  have hv : s.vm.Alike U.vm := by rw [hvm]; exact Vm.Alike.refl _
  unfold EnvR
  rw [hU]
  exact ⟨⟨e1.moved hv, e2.moved hv, e3.moved hv, e4.moved hv, e5.moved hv⟩, fun r hr => (e6 r hr).same hvm, ⟨e7.moved hv, e8, e9, e10⟩, fun w hw => (e11 w hw).same (BT_tables w hw) hvm.symm, ⟨n1.moved hv, n2.moved hv, n3.moved hv, n4.moved hv, n5.moved hv, n6.moved hv⟩, e13.moved hv⟩
theorem GT_in {w : Cond} (h : w ∈ GT) : w ∈ lw_tbl ∧ goodWord w = true := List.mem_filter.mp h
theorem GT_good {ws : List Cond} (h : ∀ w ∈ ws, w ∈ GT) : GoodIn GT ws := fun w hw => ⟨h w hw, good_of_word (GT_in (h w hw)).2⟩
/-- a word of the tables by its place -/
def gw (i : Nat) (w : Cond) : Bool := decide (lw_tbl[i]? = some w) && goodWord w
theorem gw_in {i : Nat} {w : Cond} (h : gw i w = true) : w ∈ GT := by
  unfold gw at h
  rw [Bool.and_eq_true] at h
  exact List.mem_filter.mpr ⟨List.mem_of_getElem? (of_decide_eq_true h.1), h.2⟩
