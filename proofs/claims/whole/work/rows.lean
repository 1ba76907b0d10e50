section
-- ===== PART A: goes FIRST, ahead of the names: the tables' words, and 'selects' of the private methods out of them =====
/-- a private method of a class that the tables say can be made, by its rows of tables_1 -/
def lw_okq (q : MethodName × Nat) : Prop := (q.1.cls ≠ "java/lang/invoke/MethodHandle" ∧ q.1.cls ≠ "java/lang/invoke/VarHandle") ∧ Cond.instantiable q.1.cls q.2 ∈ tables_1 ∧ Cond.privateMethod q.1 ∈ tables_1 ∧ Cond.instanceMethod q.1 ∈ tables_1
theorem lw_p0 : lw_okq (⟨"CodeHunt", "arePaired", "(II)Z"⟩, 8) := ⟨⟨by decide +kernel, by decide +kernel⟩, List.mem_of_getElem? (i := 13) (by decide +kernel), List.mem_of_getElem? (i := 227) (by decide +kernel), List.mem_of_getElem? (i := 228) (by decide +kernel)⟩
theorem lw_p1 : lw_okq (⟨"CodeHunt", "found", "(I)I"⟩, 8) := ⟨⟨by decide +kernel, by decide +kernel⟩, List.mem_of_getElem? (i := 13) (by decide +kernel), List.mem_of_getElem? (i := 259) (by decide +kernel), List.mem_of_getElem? (i := 260) (by decide +kernel)⟩
theorem lw_p2 : lw_okq (⟨"CodeHunt", "listen", "(II)V"⟩, 8) := ⟨⟨by decide +kernel, by decide +kernel⟩, List.mem_of_getElem? (i := 13) (by decide +kernel), List.mem_of_getElem? (i := 297) (by decide +kernel), List.mem_of_getElem? (i := 298) (by decide +kernel)⟩
theorem lw_p3 : lw_okq (⟨"CodeHunt", "searchFor", "(II)I"⟩, 8) := ⟨⟨by decide +kernel, by decide +kernel⟩, List.mem_of_getElem? (i := 13) (by decide +kernel), List.mem_of_getElem? (i := 320) (by decide +kernel), List.mem_of_getElem? (i := 321) (by decide +kernel)⟩
theorem lw_p4 : lw_okq (⟨"CodeHunt", "isSizeOfAnyRow", "(I)Z"⟩, 8) := ⟨⟨by decide +kernel, by decide +kernel⟩, List.mem_of_getElem? (i := 13) (by decide +kernel), List.mem_of_getElem? (i := 350) (by decide +kernel), List.mem_of_getElem? (i := 351) (by decide +kernel)⟩
theorem lw_p5 : lw_okq (⟨"CodeHunt", "takeOffLoudest", "(I)Z"⟩, 8) := ⟨⟨by decide +kernel, by decide +kernel⟩, List.mem_of_getElem? (i := 13) (by decide +kernel), List.mem_of_getElem? (i := 354) (by decide +kernel), List.mem_of_getElem? (i := 355) (by decide +kernel)⟩
theorem lw_p6 : lw_okq (⟨"CodeHunt", "loudestNear", "(LCodeHunt$Row;I)I"⟩, 8) := ⟨⟨by decide +kernel, by decide +kernel⟩, List.mem_of_getElem? (i := 13) (by decide +kernel), List.mem_of_getElem? (i := 390) (by decide +kernel), List.mem_of_getElem? (i := 391) (by decide +kernel)⟩
theorem lw_p7 : lw_okq (⟨"CodeHunt", "rowsThatAre", "()I"⟩, 8) := ⟨⟨by decide +kernel, by decide +kernel⟩, List.mem_of_getElem? (i := 13) (by decide +kernel), List.mem_of_getElem? (i := 503) (by decide +kernel), List.mem_of_getElem? (i := 504) (by decide +kernel)⟩
theorem lw_p8 : lw_okq (⟨"CodeHuntModel", "keeps", "(II)V"⟩, 19) := ⟨⟨by decide +kernel, by decide +kernel⟩, List.mem_of_getElem? (i := 521) (by decide +kernel), List.mem_of_getElem? (i := 602) (by decide +kernel), List.mem_of_getElem? (i := 603) (by decide +kernel)⟩
theorem lw_p9 : lw_okq (⟨"CodeHuntModel", "arePair", "(II)Z"⟩, 19) := ⟨⟨by decide +kernel, by decide +kernel⟩, List.mem_of_getElem? (i := 521) (by decide +kernel), List.mem_of_getElem? (i := 624) (by decide +kernel), List.mem_of_getElem? (i := 625) (by decide +kernel)⟩
theorem lw_p10 : lw_okq (⟨"CodeHuntModel", "signOf", "(II)I"⟩, 19) := ⟨⟨by decide +kernel, by decide +kernel⟩, List.mem_of_getElem? (i := 521) (by decide +kernel), List.mem_of_getElem? (i := 628) (by decide +kernel), List.mem_of_getElem? (i := 629) (by decide +kernel)⟩
theorem lw_p11 : lw_okq (⟨"CodeHuntModel", "meets", "(I)I"⟩, 19) := ⟨⟨by decide +kernel, by decide +kernel⟩, List.mem_of_getElem? (i := 521) (by decide +kernel), List.mem_of_getElem? (i := 639) (by decide +kernel), List.mem_of_getElem? (i := 640) (by decide +kernel)⟩
theorem lw_p12 : lw_okq (⟨"CodeHuntModel", "likeness", "(III)I"⟩, 19) := ⟨⟨by decide +kernel, by decide +kernel⟩, List.mem_of_getElem? (i := 521) (by decide +kernel), List.mem_of_getElem? (i := 655) (by decide +kernel), List.mem_of_getElem? (i := 656) (by decide +kernel)⟩
theorem lw_p13 : lw_okq (⟨"CodeHuntModel", "heardOf", "(IIIII)I"⟩, 19) := ⟨⟨by decide +kernel, by decide +kernel⟩, List.mem_of_getElem? (i := 521) (by decide +kernel), List.mem_of_getElem? (i := 668) (by decide +kernel), List.mem_of_getElem? (i := 669) (by decide +kernel)⟩
theorem lw_p14 : lw_okq (⟨"CodeHuntModel", "sample", "(II)I"⟩, 19) := ⟨⟨by decide +kernel, by decide +kernel⟩, List.mem_of_getElem? (i := 521) (by decide +kernel), List.mem_of_getElem? (i := 672) (by decide +kernel), List.mem_of_getElem? (i := 673) (by decide +kernel)⟩
theorem lw_p15 : lw_okq (⟨"CodeHuntModel", "refuses", "(II)I"⟩, 19) := ⟨⟨by decide +kernel, by decide +kernel⟩, List.mem_of_getElem? (i := 521) (by decide +kernel), List.mem_of_getElem? (i := 680) (by decide +kernel), List.mem_of_getElem? (i := 681) (by decide +kernel)⟩
def lw_privs_1 : List (MethodName × Nat) := [(⟨"CodeHunt", "arePaired", "(II)Z"⟩, 8), (⟨"CodeHunt", "found", "(I)I"⟩, 8), (⟨"CodeHunt", "listen", "(II)V"⟩, 8), (⟨"CodeHunt", "searchFor", "(II)I"⟩, 8), (⟨"CodeHunt", "isSizeOfAnyRow", "(I)Z"⟩, 8), (⟨"CodeHunt", "takeOffLoudest", "(I)Z"⟩, 8), (⟨"CodeHunt", "loudestNear", "(LCodeHunt$Row;I)I"⟩, 8), (⟨"CodeHunt", "rowsThatAre", "()I"⟩, 8), (⟨"CodeHuntModel", "keeps", "(II)V"⟩, 19), (⟨"CodeHuntModel", "arePair", "(II)Z"⟩, 19), (⟨"CodeHuntModel", "signOf", "(II)I"⟩, 19), (⟨"CodeHuntModel", "meets", "(I)I"⟩, 19), (⟨"CodeHuntModel", "likeness", "(III)I"⟩, 19), (⟨"CodeHuntModel", "heardOf", "(IIIII)I"⟩, 19), (⟨"CodeHuntModel", "sample", "(II)I"⟩, 19), (⟨"CodeHuntModel", "refuses", "(II)I"⟩, 19)]
theorem lw_r1 : ∀ q ∈ lw_privs_1, lw_okq q := List.forall_mem_cons.mpr ⟨lw_p0, List.forall_mem_cons.mpr ⟨lw_p1, List.forall_mem_cons.mpr ⟨lw_p2, List.forall_mem_cons.mpr ⟨lw_p3, List.forall_mem_cons.mpr ⟨lw_p4, List.forall_mem_cons.mpr ⟨lw_p5, List.forall_mem_cons.mpr ⟨lw_p6, List.forall_mem_cons.mpr ⟨lw_p7, List.forall_mem_cons.mpr ⟨lw_p8, List.forall_mem_cons.mpr ⟨lw_p9, List.forall_mem_cons.mpr ⟨lw_p10, List.forall_mem_cons.mpr ⟨lw_p11, List.forall_mem_cons.mpr ⟨lw_p12, List.forall_mem_cons.mpr ⟨lw_p13, List.forall_mem_cons.mpr ⟨lw_p14, List.forall_mem_cons.mpr ⟨lw_p15, fun _ h => absurd h List.not_mem_nil⟩⟩⟩⟩⟩⟩⟩⟩⟩⟩⟩⟩⟩⟩⟩⟩
theorem lw_p16 : lw_okq (⟨"CodeHuntModel", "finds", "(II)I"⟩, 19) := ⟨⟨by decide +kernel, by decide +kernel⟩, List.mem_of_getElem? (i := 521) (by decide +kernel), List.mem_of_getElem? (i := 684) (by decide +kernel), List.mem_of_getElem? (i := 685) (by decide +kernel)⟩
theorem lw_p17 : lw_okq (⟨"CodeHuntModel", "takesOff", "(I)Z"⟩, 19) := ⟨⟨by decide +kernel, by decide +kernel⟩, List.mem_of_getElem? (i := 521) (by decide +kernel), List.mem_of_getElem? (i := 707) (by decide +kernel), List.mem_of_getElem? (i := 708) (by decide +kernel)⟩
theorem lw_p18 : lw_okq (⟨"CodeHuntModel", "amount", "(III)I"⟩, 19) := ⟨⟨by decide +kernel, by decide +kernel⟩, List.mem_of_getElem? (i := 521) (by decide +kernel), List.mem_of_getElem? (i := 724) (by decide +kernel), List.mem_of_getElem? (i := 725) (by decide +kernel)⟩
theorem lw_p19 : lw_okq (⟨"CodeHuntModel", "lacks", "(III)I"⟩, 19) := ⟨⟨by decide +kernel, by decide +kernel⟩, List.mem_of_getElem? (i := 521) (by decide +kernel), List.mem_of_getElem? (i := 776) (by decide +kernel), List.mem_of_getElem? (i := 777) (by decide +kernel)⟩
theorem lw_p20 : lw_okq (⟨"CodeHuntModel", "rowsThere", "()I"⟩, 19) := ⟨⟨by decide +kernel, by decide +kernel⟩, List.mem_of_getElem? (i := 521) (by decide +kernel), List.mem_of_getElem? (i := 799) (by decide +kernel), List.mem_of_getElem? (i := 800) (by decide +kernel)⟩
def lw_privs_2 : List (MethodName × Nat) := [(⟨"CodeHuntModel", "finds", "(II)I"⟩, 19), (⟨"CodeHuntModel", "takesOff", "(I)Z"⟩, 19), (⟨"CodeHuntModel", "amount", "(III)I"⟩, 19), (⟨"CodeHuntModel", "lacks", "(III)I"⟩, 19), (⟨"CodeHuntModel", "rowsThere", "()I"⟩, 19)]
theorem lw_r2 : ∀ q ∈ lw_privs_2, lw_okq q := List.forall_mem_cons.mpr ⟨lw_p16, List.forall_mem_cons.mpr ⟨lw_p17, List.forall_mem_cons.mpr ⟨lw_p18, List.forall_mem_cons.mpr ⟨lw_p19, List.forall_mem_cons.mpr ⟨lw_p20, fun _ h => absurd h List.not_mem_nil⟩⟩⟩⟩⟩
def lw_privs : List (MethodName × Nat) := lw_privs_1 ++ (lw_privs_2)
def lw_tbl : List Cond := k2_sels lw_privs ++ tables_1
theorem lw_privs_ok : ∀ q ∈ lw_privs, lw_okq q := by
  show ∀ q ∈ lw_privs_1 ++ (lw_privs_2), lw_okq q
  exact List.forall_mem_append.mpr ⟨lw_r1, lw_r2⟩
end
section
theorem goodIn_r {big : List Cond} (ws : List Cond) (ps : List Nat) (hp : ws = ps.filterMap (fun i => big[i]?)) (h : ws.all goodWord = true) : GoodIn big ws := by
  intro w hw
  have h1 := List.all_eq_true.mp h w hw
  rw [hp] at hw
  obtain ⟨i, -, hi⟩ := List.mem_filterMap.mp hw
  have hm : w ∈ big := by first | exact List.mem_of_getElem? hi | exact List.getElem?_mem hi
  exact ⟨hm, good_of_word h1⟩
theorem goodIn_app {big a b : List Cond} (ha : GoodIn big a) (hb : GoodIn big b) : GoodIn big (a ++ b) := fun w h => (List.mem_append.mp h).elim (ha w) (hb w)
theorem goodIn_ca {big a b : List Cond} {c : Cond} (ha : GoodIn big (c :: a)) (hb : GoodIn big b) : GoodIn big (c :: (a ++ b)) := fun w h => (List.mem_cons.mp h).elim (fun e => ha w (List.mem_cons.mpr (Or.inl e))) (fun h => (List.mem_append.mp h).elim (fun h => ha w (List.mem_cons.mpr (Or.inr h))) (hb w))
theorem goodIn_sub {big ws : List Cond} (hm : ∀ w ∈ ws, w ∈ big) (h : ws.all goodWord = true) : GoodIn big ws := fun w hw => ⟨hm w hw, good_of_word (List.all_eq_true.mp h w hw)⟩

def RX0 : String := "CodeHunt$Lengths"
def TX0 : u_T := fun k => match k with
  | 0 => ("CodeHunt$Lengths", "lengthOf", "[I", true)
  | 1 => ("CodeHunt$Lengths", "shiftOf", "[I", true)
  | _ => ("CodeHunt$Lengths", "size", "I", false)
def tyX0 : Nat → FieldType := fun k => match k with
  | 0 => .array .int
  | 1 => .array .int
  | _ => .int
abbrev wsX00 : List Cond := u_ws RX0 TX0 3
theorem nmX0 : ∀ a, a < 3 → ∀ b, b < 3 → a ≠ b → (TX0 a).2.1 ≠ (TX0 b).2.1 := by decide +kernel
theorem tyX0_ok : ∀ k, k < 3 → parseFieldDescriptor (TX0 k).2.2.1 = some (tyX0 k) := by decide +kernel
abbrev cX0_init : ByteArray := prog_2_method_1_code
def yX0_init : MethodName := ⟨RX0, "<init>", "()V"⟩
abbrev cX0_keep : ByteArray := prog_2_method_2_code
def yX0_keep : MethodName := ⟨RX0, "keep", "(II)V"⟩
abbrev cX0_haveDivisorWith : ByteArray := prog_2_method_3_code
def yX0_haveDivisorWith : MethodName := ⟨RX0, "haveDivisorWith", "(I)Z"⟩
abbrev cX0_fits : ByteArray := prog_2_method_4_code
def yX0_fits : MethodName := ⟨RX0, "fits", "(JI)Z"⟩
abbrev cX0_howManyFit : ByteArray := prog_2_method_5_code
def yX0_howManyFit : MethodName := ⟨RX0, "howManyFit", "(I)I"⟩
abbrev cX0_leastFitting : ByteArray := prog_2_method_6_code
def yX0_leastFitting : MethodName := ⟨RX0, "leastFitting", "()J"⟩
def RX1 : String := "CodeHunt$Peeling"
def TX1 : u_T := fun k => match k with
  | 0 => ("CodeHunt$Peeling", "rowOf", "[I", true)
  | 1 => ("CodeHunt$Peeling", "shiftOf", "[I", true)
  | 2 => ("CodeHunt$Peeling", "strengthOf", "[I", true)
  | 3 => ("CodeHunt$Peeling", "times", "I", false)
  | _ => ("CodeHunt$Peeling", "noise", "J", false)
def tyX1 : Nat → FieldType := fun k => match k with
  | 0 => .array .int
  | 1 => .array .int
  | 2 => .array .int
  | 3 => .int
  | _ => .long
abbrev wsX10 : List Cond := u_ws RX1 TX1 5
theorem nmX1 : ∀ a, a < 5 → ∀ b, b < 5 → a ≠ b → (TX1 a).2.1 ≠ (TX1 b).2.1 := by decide +kernel
theorem tyX1_ok : ∀ k, k < 5 → parseFieldDescriptor (TX1 k).2.2.1 = some (tyX1 k) := by decide +kernel
abbrev cX1_init : ByteArray := prog_3_method_1_code
def yX1_init : MethodName := ⟨RX1, "<init>", "()V"⟩
abbrev cX1_keep : ByteArray := prog_3_method_2_code
def yX1_keep : MethodName := ⟨RX1, "keep", "(III)V"⟩
def RX2 : String := "CodeHunt$Reel"
def TX2 : u_T := fun k => match k with
  | 0 => ("CodeHunt$Reel", "items", "[I", true)
  | 1 => ("CodeHunt$Reel", "lost", "Z", false)
  | 2 => ("CodeHunt$Reel", "form", "I", false)
  | _ => ("CodeHunt$Reel", "size", "I", false)
def tyX2 : Nat → FieldType := fun k => match k with
  | 0 => .array .int
  | 1 => .boolean
  | 2 => .int
  | _ => .int
abbrev wsX20 : List Cond := u_ws RX2 TX2 4
theorem nmX2 : ∀ a, a < 4 → ∀ b, b < 4 → a ≠ b → (TX2 a).2.1 ≠ (TX2 b).2.1 := by decide +kernel
theorem tyX2_ok : ∀ k, k < 4 → parseFieldDescriptor (TX2 k).2.2.1 = some (tyX2 k) := by decide +kernel
abbrev cX2_init : ByteArray := prog_4_method_1_code
def yX2_init : MethodName := ⟨RX2, "<init>", "()V"⟩
abbrev cX2_renew : ByteArray := prog_4_method_2_code
def yX2_renew : MethodName := ⟨RX2, "renew", "(II)V"⟩
abbrev cX2_hasItem : ByteArray := prog_4_method_3_code
def yX2_hasItem : MethodName := ⟨RX2, "hasItem", "(I)Z"⟩
abbrev cX2_troubleAt : ByteArray := prog_4_method_4_code
def yX2_troubleAt : MethodName := ⟨RX2, "troubleAt", "(II)I"⟩
abbrev cX2_hasSpan : ByteArray := prog_4_method_5_code
def yX2_hasSpan : MethodName := ⟨RX2, "hasSpan", "(II)Z"⟩
abbrev cX2_itemOrZero : ByteArray := prog_4_method_6_code
def yX2_itemOrZero : MethodName := ⟨RX2, "itemOrZero", "(I)I"⟩
abbrev cX2_keep : ByteArray := prog_4_method_7_code
def yX2_keep : MethodName := ⟨RX2, "keep", "(II)V"⟩
abbrev cX2_lowestBits : ByteArray := prog_4_method_8_code
def yX2_lowestBits : MethodName := ⟨RX2, "lowestBits", "(I)I"⟩
def RX3 : String := "CodeHunt$Row"
def TX3 : u_T := fun k => match k with
  | 0 => ("CodeHunt$Row", "signs", "[I", true)
  | _ => ("CodeHunt$Row", "size", "I", false)
def tyX3 : Nat → FieldType := fun k => match k with
  | 0 => .array .int
  | _ => .int
abbrev wsX30 : List Cond := u_ws RX3 TX3 2
theorem nmX3 : ∀ a, a < 2 → ∀ b, b < 2 → a ≠ b → (TX3 a).2.1 ≠ (TX3 b).2.1 := by decide +kernel
theorem tyX3_ok : ∀ k, k < 2 → parseFieldDescriptor (TX3 k).2.2.1 = some (tyX3 k) := by decide +kernel
abbrev cX3_init : ByteArray := prog_5_method_1_code
def yX3_init : MethodName := ⟨RX3, "<init>", "()V"⟩
abbrev cX3_isNone : ByteArray := prog_5_method_2_code
def yX3_isNone : MethodName := ⟨RX3, "isNone", "()Z"⟩
abbrev cX3_signAt : ByteArray := prog_5_method_3_code
def yX3_signAt : MethodName := ⟨RX3, "signAt", "(I)I"⟩
abbrev cX3_fillByRegister : ByteArray := prog_5_method_4_code
def yX3_fillByRegister : MethodName := ⟨RX3, "fillByRegister", "(III)V"⟩
abbrev cX3_fillBySignsOf : ByteArray := prog_5_method_5_code
def yX3_fillBySignsOf : MethodName := ⟨RX3, "fillBySignsOf", "([II)V"⟩
abbrev cX3_sumOver : ByteArray := prog_5_method_6_code
def yX3_sumOver : MethodName := ⟨RX3, "sumOver", "([II)I"⟩
abbrev cX3_takeOff : ByteArray := prog_5_method_7_code
def yX3_takeOff : MethodName := ⟨RX3, "takeOff", "([III)V"⟩
abbrev cX3_mixedInto : ByteArray := prog_5_method_8_code
def yX3_mixedInto : MethodName := ⟨RX3, "mixedInto", "(J)J"⟩
def RX4 : String := "CodeHunt$Search"
def TX4 : u_T := fun k => match k with
  | 0 => ("CodeHunt$Search", "greatest", "J", false)
  | 1 => ("CodeHunt$Search", "next", "J", false)
  | 2 => ("CodeHunt$Search", "tone", "I", false)
  | _ => ("CodeHunt$Search", "shift", "I", false)
def tyX4 : Nat → FieldType := fun k => match k with
  | 0 => .long
  | 1 => .long
  | 2 => .int
  | _ => .int
abbrev wsX40 : List Cond := u_ws RX4 TX4 4
theorem nmX4 : ∀ a, a < 4 → ∀ b, b < 4 → a ≠ b → (TX4 a).2.1 ≠ (TX4 b).2.1 := by decide +kernel
theorem tyX4_ok : ∀ k, k < 4 → parseFieldDescriptor (TX4 k).2.2.1 = some (tyX4 k) := by decide +kernel
abbrev cX4_init : ByteArray := prog_6_method_1_code
def yX4_init : MethodName := ⟨RX4, "<init>", "()V"⟩
abbrev cX4_begin : ByteArray := prog_6_method_2_code
def yX4_begin : MethodName := ⟨RX4, "begin", "()V"⟩
abbrev cX4_weigh : ByteArray := prog_6_method_3_code
def yX4_weigh : MethodName := ⟨RX4, "weigh", "(JII)V"⟩
def RX5 : String := "CodeHunt$Window"
def TX5 : u_T := fun k => match k with
  | 0 => ("CodeHunt$Window", "x", "[I", true)
  | 1 => ("CodeHunt$Window", "y", "[I", true)
  | 2 => ("CodeHunt$Window", "turnedX", "[I", true)
  | 3 => ("CodeHunt$Window", "turnedY", "[I", true)
  | _ => ("CodeHunt$Window", "size", "I", false)
def tyX5 : Nat → FieldType := fun k => match k with
  | 0 => .array .int
  | 1 => .array .int
  | 2 => .array .int
  | 3 => .array .int
  | _ => .int
abbrev wsX50 : List Cond := u_ws RX5 TX5 5
theorem nmX5 : ∀ a, a < 5 → ∀ b, b < 5 → a ≠ b → (TX5 a).2.1 ≠ (TX5 b).2.1 := by decide +kernel
theorem tyX5_ok : ∀ k, k < 5 → parseFieldDescriptor (TX5 k).2.2.1 = some (tyX5 k) := by decide +kernel
abbrev cX5_init : ByteArray := prog_7_method_1_code
def yX5_init : MethodName := ⟨RX5, "<init>", "()V"⟩
abbrev cX5_turnBack : ByteArray := prog_7_method_2_code
def yX5_turnBack : MethodName := ⟨RX5, "turnBack", "(I)V"⟩
abbrev cX5_squaresOfX : ByteArray := prog_7_method_3_code
def yX5_squaresOfX : MethodName := ⟨RX5, "squaresOfX", "()J"⟩
def RX6 : String := "CodeHunt"
def TX6 : u_T := fun k => match k with
  | 0 => ("CodeHunt", "rows", "[LCodeHunt$Row;", true)
  | 1 => ("CodeHunt", "reels", "[LCodeHunt$Reel;", true)
  | 2 => ("CodeHunt", "window", "LCodeHunt$Window;", true)
  | 3 => ("CodeHunt", "search", "LCodeHunt$Search;", true)
  | 4 => ("CodeHunt", "peeling", "LCodeHunt$Peeling;", true)
  | 5 => ("CodeHunt", "lengths", "LCodeHunt$Lengths;", true)
  | 6 => ("CodeHunt", "doubt", "I", false)
  | _ => ("CodeHunt", "finding", "I", false)
def tyX6 : Nat → FieldType := fun k => match k with
  | 0 => .array (.object "CodeHunt$Row")
  | 1 => .array (.object "CodeHunt$Reel")
  | 2 => .object "CodeHunt$Window"
  | 3 => .object "CodeHunt$Search"
  | 4 => .object "CodeHunt$Peeling"
  | 5 => .object "CodeHunt$Lengths"
  | 6 => .int
  | _ => .int
abbrev wsX60 : List Cond := u_ws RX6 TX6 8
theorem nmX6 : ∀ a, a < 8 → ∀ b, b < 8 → a ≠ b → (TX6 a).2.1 ≠ (TX6 b).2.1 := by decide +kernel
theorem tyX6_ok : ∀ k, k < 8 → parseFieldDescriptor (TX6 k).2.2.1 = some (tyX6 k) := by decide +kernel
abbrev cX6_init : ByteArray := prog_1_method_1_code
def yX6_init : MethodName := ⟨RX6, "<init>", "()V"⟩
abbrev cX6_make : ByteArray := prog_1_method_2_code
def yX6_make : MethodName := ⟨RX6, "make", "(IIII)I"⟩
abbrev cX6_period : ByteArray := prog_1_method_3_code
def yX6_period : MethodName := ⟨RX6, "period", "(III)I"⟩
abbrev cX6_full : ByteArray := prog_1_method_4_code
def yX6_full : MethodName := ⟨RX6, "full", "(I)I"⟩
abbrev cX6_join : ByteArray := prog_1_method_5_code
def yX6_join : MethodName := ⟨RX6, "join", "(IIII)I"⟩
abbrev cX6_load : ByteArray := prog_1_method_6_code
def yX6_load : MethodName := ⟨RX6, "load", "(III)I"⟩
abbrev cX6_drop : ByteArray := prog_1_method_7_code
def yX6_drop : MethodName := ⟨RX6, "drop", "(I)I"⟩
abbrev cX6_sign : ByteArray := prog_1_method_8_code
def yX6_sign : MethodName := ⟨RX6, "sign", "(II)I"⟩
abbrev cX6_like : ByteArray := prog_1_method_9_code
def yX6_like : MethodName := ⟨RX6, "like", "(III)I"⟩
abbrev cX6_most : ByteArray := prog_1_method_10_code
def yX6_most : MethodName := ⟨RX6, "most", "(II)I"⟩
abbrev cX6_heard : ByteArray := prog_1_method_11_code
def yX6_heard : MethodName := ⟨RX6, "heard", "(IIIII)I"⟩
abbrev cX6_search : ByteArray := prog_1_method_12_code
def yX6_search : MethodName := ⟨RX6, "search", "(II)I"⟩
abbrev cX6_sure : ByteArray := prog_1_method_13_code
def yX6_sure : MethodName := ⟨RX6, "sure", "(II)I"⟩
abbrev cX6_power : ByteArray := prog_1_method_14_code
def yX6_power : MethodName := ⟨RX6, "power", "(II)J"⟩
abbrev cX6_doubt : ByteArray := prog_1_method_15_code
def yX6_doubt : MethodName := ⟨RX6, "doubt", "(I)I"⟩
abbrev cX6_peel : ByteArray := prog_1_method_16_code
def yX6_peel : MethodName := ⟨RX6, "peel", "(II)I"⟩
abbrev cX6_peeled : ByteArray := prog_1_method_17_code
def yX6_peeled : MethodName := ⟨RX6, "peeled", "(II)I"⟩
abbrev cX6_noise : ByteArray := prog_1_method_18_code
def yX6_noise : MethodName := ⟨RX6, "noise", "()J"⟩
abbrev cX6_follow : ByteArray := prog_1_method_19_code
def yX6_follow : MethodName := ⟨RX6, "follow", "(IIII)I"⟩
abbrev cX6_length : ByteArray := prog_1_method_20_code
def yX6_length : MethodName := ⟨RX6, "length", "(II)I"⟩
abbrev cX6_reset : ByteArray := prog_1_method_21_code
def yX6_reset : MethodName := ⟨RX6, "reset", "()I"⟩
abbrev cX6_range : ByteArray := prog_1_method_22_code
def yX6_range : MethodName := ⟨RX6, "range", "()J"⟩
abbrev cX6_mend : ByteArray := prog_1_method_23_code
def yX6_mend : MethodName := ⟨RX6, "mend", "(I)I"⟩
abbrev cX6_hits : ByteArray := prog_1_method_24_code
def yX6_hits : MethodName := ⟨RX6, "hits", "(IIIII)I"⟩
abbrev cX6_worst : ByteArray := prog_1_method_25_code
def yX6_worst : MethodName := ⟨RX6, "worst", "(III)I"⟩
abbrev cX6_reel : ByteArray := prog_1_method_26_code
def yX6_reel : MethodName := ⟨RX6, "reel", "(III)I"⟩
abbrev cX6_lose : ByteArray := prog_1_method_27_code
def yX6_lose : MethodName := ⟨RX6, "lose", "(I)I"⟩
abbrev cX6_put : ByteArray := prog_1_method_28_code
def yX6_put : MethodName := ⟨RX6, "put", "(IIII)I"⟩
abbrev cX6_get : ByteArray := prog_1_method_29_code
def yX6_get : MethodName := ⟨RX6, "get", "(III)I"⟩
abbrev cX6_copy : ByteArray := prog_1_method_30_code
def yX6_copy : MethodName := ⟨RX6, "copy", "(IIIII)I"⟩
abbrev cX6_add : ByteArray := prog_1_method_31_code
def yX6_add : MethodName := ⟨RX6, "add", "(IIIII)I"⟩
abbrev cX6_count : ByteArray := prog_1_method_32_code
def yX6_count : MethodName := ⟨RX6, "count", "(I)I"⟩
abbrev cX6_digest : ByteArray := prog_1_method_33_code
def yX6_digest : MethodName := ⟨RX6, "digest", "()J"⟩
abbrev cX6_isRow : ByteArray := prog_1_method_34_code
def yX6_isRow : MethodName := ⟨RX6, "isRow", "(I)Z"⟩
abbrev cX6_isReel : ByteArray := prog_1_method_35_code
def yX6_isReel : MethodName := ⟨RX6, "isReel", "(I)Z"⟩
abbrev cX6_isForm : ByteArray := prog_1_method_36_code
def yX6_isForm : MethodName := ⟨RX6, "isForm", "(I)Z"⟩
abbrev cX6_isShift : ByteArray := prog_1_method_37_code
def yX6_isShift : MethodName := ⟨RX6, "isShift", "(I)Z"⟩
abbrev cX6_isSize : ByteArray := prog_1_method_38_code
def yX6_isSize : MethodName := ⟨RX6, "isSize", "(I)Z"⟩
abbrev cX6_isPlace : ByteArray := prog_1_method_39_code
def yX6_isPlace : MethodName := ⟨RX6, "isPlace", "(I)Z"⟩
abbrev cX6_isBits : ByteArray := prog_1_method_40_code
def yX6_isBits : MethodName := ⟨RX6, "isBits", "(I)Z"⟩
abbrev cX6_isRegister : ByteArray := prog_1_method_41_code
def yX6_isRegister : MethodName := ⟨RX6, "isRegister", "(III)Z"⟩
abbrev cX6_areHops : ByteArray := prog_1_method_42_code
def yX6_areHops : MethodName := ⟨RX6, "areHops", "(III)Z"⟩
abbrev cX6_arePaired : ByteArray := prog_1_method_43_code
def yX6_arePaired : MethodName := ⟨RX6, "arePaired", "(II)Z"⟩
abbrev cX6_isSizeOfAnyRow : ByteArray := prog_1_method_44_code
def yX6_isSizeOfAnyRow : MethodName := ⟨RX6, "isSizeOfAnyRow", "(I)Z"⟩
abbrev cX6_found : ByteArray := prog_1_method_45_code
def yX6_found : MethodName := ⟨RX6, "found", "(I)I"⟩
abbrev cX6_stepped : ByteArray := prog_1_method_46_code
def yX6_stepped : MethodName := ⟨RX6, "stepped", "(III)I"⟩
abbrev cX6_stepsToReturn : ByteArray := prog_1_method_47_code
def yX6_stepsToReturn : MethodName := ⟨RX6, "stepsToReturn", "(III)I"⟩
abbrev cX6_meetings : ByteArray := prog_1_method_48_code
def yX6_meetings : MethodName := ⟨RX6, "meetings", "(IIIII)I"⟩
abbrev cX6_mixed : ByteArray := prog_1_method_49_code
def yX6_mixed : MethodName := ⟨RX6, "mixed", "(JJ)J"⟩
abbrev cX6_rowsThatAre : ByteArray := prog_1_method_50_code
def yX6_rowsThatAre : MethodName := ⟨RX6, "rowsThatAre", "()I"⟩
abbrev cX6_listen : ByteArray := prog_1_method_51_code
def yX6_listen : MethodName := ⟨RX6, "listen", "(II)V"⟩
abbrev cX6_quietened : ByteArray := prog_1_method_52_code
def yX6_quietened : MethodName := ⟨RX6, "quietened", "(I)I"⟩
abbrev cX6_searchFor : ByteArray := prog_1_method_53_code
def yX6_searchFor : MethodName := ⟨RX6, "searchFor", "(II)I"⟩
abbrev cX6_takeOffLoudest : ByteArray := prog_1_method_54_code
def yX6_takeOffLoudest : MethodName := ⟨RX6, "takeOffLoudest", "(I)Z"⟩
abbrev cX6_roundedRatio : ByteArray := prog_1_method_55_code
def yX6_roundedRatio : MethodName := ⟨RX6, "roundedRatio", "(II)I"⟩
abbrev cX6_loudestNear : ByteArray := prog_1_method_56_code
def yX6_loudestNear : MethodName := ⟨RX6, "loudestNear", "(LCodeHunt$Row;I)I"⟩
def RX7 : String := "CodeHuntModel"
def TX7 : u_T := fun k => match k with
  | 0 => ("CodeHuntModel", "sizesOf", "[I", true)
  | 1 => ("CodeHuntModel", "signs", "[I", true)
  | 2 => ("CodeHuntModel", "made", "[I", true)
  | 3 => ("CodeHuntModel", "doubt", "I", false)
  | 4 => ("CodeHuntModel", "greatest", "J", false)
  | 5 => ("CodeHuntModel", "other", "J", false)
  | 6 => ("CodeHuntModel", "times", "I", false)
  | 7 => ("CodeHuntModel", "peeled", "[I", true)
  | 8 => ("CodeHuntModel", "left", "[I", true)
  | 9 => ("CodeHuntModel", "noise", "J", false)
  | 10 => ("CodeHuntModel", "lengths", "I", false)
  | 11 => ("CodeHuntModel", "lengthOf", "[I", true)
  | 12 => ("CodeHuntModel", "shiftOf", "[I", true)
  | 13 => ("CodeHuntModel", "isThere", "[Z", true)
  | 14 => ("CodeHuntModel", "forms", "[I", true)
  | 15 => ("CodeHuntModel", "sizes", "[I", true)
  | 16 => ("CodeHuntModel", "items", "[I", true)
  | 17 => ("CodeHuntModel", "moved", "[I", true)
  | _ => ("CodeHuntModel", "finding", "I", false)
def tyX7 : Nat → FieldType := fun k => match k with
  | 0 => .array .int
  | 1 => .array .int
  | 2 => .array .int
  | 3 => .int
  | 4 => .long
  | 5 => .long
  | 6 => .int
  | 7 => .array .int
  | 8 => .array .int
  | 9 => .long
  | 10 => .int
  | 11 => .array .int
  | 12 => .array .int
  | 13 => .array .boolean
  | 14 => .array .int
  | 15 => .array .int
  | 16 => .array .int
  | 17 => .array .int
  | _ => .int
abbrev wsX70 : List Cond := u_ws RX7 TX7 19
theorem nmX7 : ∀ a, a < 19 → ∀ b, b < 19 → a ≠ b → (TX7 a).2.1 ≠ (TX7 b).2.1 := by decide +kernel
theorem tyX7_ok : ∀ k, k < 19 → parseFieldDescriptor (TX7 k).2.2.1 = some (tyX7 k) := by decide +kernel
abbrev cX7_init : ByteArray := prog_9_method_1_code
def yX7_init : MethodName := ⟨RX7, "<init>", "()V"⟩
abbrev cX7_in : ByteArray := prog_9_method_3_code
def yX7_in : MethodName := ⟨RX7, "in", "(III)Z"⟩
abbrev cX7_isRow : ByteArray := prog_9_method_4_code
def yX7_isRow : MethodName := ⟨RX7, "isRow", "(I)Z"⟩
abbrev cX7_isShift : ByteArray := prog_9_method_5_code
def yX7_isShift : MethodName := ⟨RX7, "isShift", "(I)Z"⟩
abbrev cX7_signOf : ByteArray := prog_9_method_6_code
def yX7_signOf : MethodName := ⟨RX7, "signOf", "(II)I"⟩
abbrev cX7_keeps : ByteArray := prog_9_method_7_code
def yX7_keeps : MethodName := ⟨RX7, "keeps", "(II)V"⟩
abbrev cX7_isRegister : ByteArray := prog_9_method_8_code
def yX7_isRegister : MethodName := ⟨RX7, "isRegister", "(III)Z"⟩
abbrev cX7_next : ByteArray := prog_9_method_9_code
def yX7_next : MethodName := ⟨RX7, "next", "(III)I"⟩
abbrev cX7_make : ByteArray := prog_9_method_10_code
def yX7_make : MethodName := ⟨RX7, "make", "(IIII)I"⟩
abbrev cX7_periodOf : ByteArray := prog_9_method_11_code
def yX7_periodOf : MethodName := ⟨RX7, "periodOf", "(III)I"⟩
abbrev cX7_period : ByteArray := prog_9_method_12_code
def yX7_period : MethodName := ⟨RX7, "period", "(III)I"⟩
abbrev cX7_full : ByteArray := prog_9_method_13_code
def yX7_full : MethodName := ⟨RX7, "full", "(I)I"⟩
abbrev cX7_arePair : ByteArray := prog_9_method_14_code
def yX7_arePair : MethodName := ⟨RX7, "arePair", "(II)Z"⟩
abbrev cX7_join : ByteArray := prog_9_method_15_code
def yX7_join : MethodName := ⟨RX7, "join", "(IIII)I"⟩
abbrev cX7_load : ByteArray := prog_9_method_16_code
def yX7_load : MethodName := ⟨RX7, "load", "(III)I"⟩
abbrev cX7_drop : ByteArray := prog_9_method_17_code
def yX7_drop : MethodName := ⟨RX7, "drop", "(I)I"⟩
abbrev cX7_sign : ByteArray := prog_9_method_18_code
def yX7_sign : MethodName := ⟨RX7, "sign", "(II)I"⟩
abbrev cX7_likeness : ByteArray := prog_9_method_19_code
def yX7_likeness : MethodName := ⟨RX7, "likeness", "(III)I"⟩
abbrev cX7_like : ByteArray := prog_9_method_20_code
def yX7_like : MethodName := ⟨RX7, "like", "(III)I"⟩
abbrev cX7_most : ByteArray := prog_9_method_21_code
def yX7_most : MethodName := ⟨RX7, "most", "(II)I"⟩
abbrev cX7_sample : ByteArray := prog_9_method_22_code
def yX7_sample : MethodName := ⟨RX7, "sample", "(II)I"⟩
abbrev cX7_heardOf : ByteArray := prog_9_method_23_code
def yX7_heardOf : MethodName := ⟨RX7, "heardOf", "(IIIII)I"⟩
abbrev cX7_heard : ByteArray := prog_9_method_24_code
def yX7_heard : MethodName := ⟨RX7, "heard", "(IIIII)I"⟩
abbrev cX7_finds : ByteArray := prog_9_method_25_code
def yX7_finds : MethodName := ⟨RX7, "finds", "(II)I"⟩
abbrev cX7_refuses : ByteArray := prog_9_method_26_code
def yX7_refuses : MethodName := ⟨RX7, "refuses", "(II)I"⟩
abbrev cX7_search : ByteArray := prog_9_method_27_code
def yX7_search : MethodName := ⟨RX7, "search", "(II)I"⟩
abbrev cX7_sure : ByteArray := prog_9_method_28_code
def yX7_sure : MethodName := ⟨RX7, "sure", "(II)I"⟩
abbrev cX7_power : ByteArray := prog_9_method_29_code
def yX7_power : MethodName := ⟨RX7, "power", "(II)J"⟩
abbrev cX7_doubt : ByteArray := prog_9_method_30_code
def yX7_doubt : MethodName := ⟨RX7, "doubt", "(I)I"⟩
abbrev cX7_peel : ByteArray := prog_9_method_31_code
def yX7_peel : MethodName := ⟨RX7, "peel", "(II)I"⟩
abbrev cX7_takesOff : ByteArray := prog_9_method_32_code
def yX7_takesOff : MethodName := ⟨RX7, "takesOff", "(I)Z"⟩
abbrev cX7_peeled : ByteArray := prog_9_method_33_code
def yX7_peeled : MethodName := ⟨RX7, "peeled", "(II)I"⟩
abbrev cX7_noise : ByteArray := prog_9_method_34_code
def yX7_noise : MethodName := ⟨RX7, "noise", "()J"⟩
abbrev cX7_amount : ByteArray := prog_9_method_35_code
def yX7_amount : MethodName := ⟨RX7, "amount", "(III)I"⟩
abbrev cX7_follow : ByteArray := prog_9_method_36_code
def yX7_follow : MethodName := ⟨RX7, "follow", "(IIII)I"⟩
abbrev cX7_divisor : ByteArray := prog_9_method_37_code
def yX7_divisor : MethodName := ⟨RX7, "divisor", "(II)I"⟩
abbrev cX7_length : ByteArray := prog_9_method_38_code
def yX7_length : MethodName := ⟨RX7, "length", "(II)I"⟩
abbrev cX7_reset : ByteArray := prog_9_method_39_code
def yX7_reset : MethodName := ⟨RX7, "reset", "()I"⟩
abbrev cX7_range : ByteArray := prog_9_method_40_code
def yX7_range : MethodName := ⟨RX7, "range", "()J"⟩
abbrev cX7_mend : ByteArray := prog_9_method_41_code
def yX7_mend : MethodName := ⟨RX7, "mend", "(I)I"⟩
abbrev cX7_isPrime : ByteArray := prog_9_method_42_code
def yX7_isPrime : MethodName := ⟨RX7, "isPrime", "(I)Z"⟩
abbrev cX7_hitsOf : ByteArray := prog_9_method_43_code
def yX7_hitsOf : MethodName := ⟨RX7, "hitsOf", "(IIIII)I"⟩
abbrev cX7_isHop : ByteArray := prog_9_method_44_code
def yX7_isHop : MethodName := ⟨RX7, "isHop", "(II)Z"⟩
abbrev cX7_hits : ByteArray := prog_9_method_45_code
def yX7_hits : MethodName := ⟨RX7, "hits", "(IIIII)I"⟩
abbrev cX7_worst : ByteArray := prog_9_method_46_code
def yX7_worst : MethodName := ⟨RX7, "worst", "(III)I"⟩
abbrev cX7_meets : ByteArray := prog_9_method_47_code
def yX7_meets : MethodName := ⟨RX7, "meets", "(I)I"⟩
abbrev cX7_isReel : ByteArray := prog_9_method_48_code
def yX7_isReel : MethodName := ⟨RX7, "isReel", "(I)Z"⟩
abbrev cX7_reel : ByteArray := prog_9_method_49_code
def yX7_reel : MethodName := ⟨RX7, "reel", "(III)I"⟩
abbrev cX7_lose : ByteArray := prog_9_method_50_code
def yX7_lose : MethodName := ⟨RX7, "lose", "(I)I"⟩
abbrev cX7_lacks : ByteArray := prog_9_method_51_code
def yX7_lacks : MethodName := ⟨RX7, "lacks", "(III)I"⟩
abbrev cX7_cut : ByteArray := prog_9_method_52_code
def yX7_cut : MethodName := ⟨RX7, "cut", "(II)I"⟩
abbrev cX7_put : ByteArray := prog_9_method_53_code
def yX7_put : MethodName := ⟨RX7, "put", "(IIII)I"⟩
abbrev cX7_get : ByteArray := prog_9_method_54_code
def yX7_get : MethodName := ⟨RX7, "get", "(III)I"⟩
abbrev cX7_copy : ByteArray := prog_9_method_55_code
def yX7_copy : MethodName := ⟨RX7, "copy", "(IIIII)I"⟩
abbrev cX7_add : ByteArray := prog_9_method_56_code
def yX7_add : MethodName := ⟨RX7, "add", "(IIIII)I"⟩
abbrev cX7_rowsThere : ByteArray := prog_9_method_57_code
def yX7_rowsThere : MethodName := ⟨RX7, "rowsThere", "()I"⟩
abbrev cX7_count : ByteArray := prog_9_method_58_code
def yX7_count : MethodName := ⟨RX7, "count", "(I)I"⟩
abbrev cX7_digest : ByteArray := prog_9_method_59_code
def yX7_digest : MethodName := ⟨RX7, "digest", "()J"⟩
def RJ6 : String := "java/lang/Integer"
def TJ6 : u_T := fun k => match k with
  | _ => ("", "", "", false)
def tyJ6 : Nat → FieldType := fun k => match k with
  | _ => .int
abbrev wsJ60 : List Cond := u_ws RJ6 TJ6 0
theorem nmJ6 : ∀ a, a < 0 → ∀ b, b < 0 → a ≠ b → (TJ6 a).2.1 ≠ (TJ6 b).2.1 := by decide +kernel
theorem tyJ6_ok : ∀ k, k < 0 → parseFieldDescriptor (TJ6 k).2.2.1 = some (tyJ6 k) := by decide +kernel
abbrev cJ6_bitCount_0f7a4 : ByteArray := prog_10_method_49_code
def yJ6_bitCount_0f7a4 : MethodName := ⟨RJ6, "bitCount", "(I)I"⟩
def RJ9 : String := "java/lang/Math"
def TJ9 : u_T := fun k => match k with
  | _ => ("", "", "", false)
def tyJ9 : Nat → FieldType := fun k => match k with
  | _ => .int
abbrev wsJ90 : List Cond := u_ws RJ9 TJ9 0
theorem nmJ9 : ∀ a, a < 0 → ∀ b, b < 0 → a ≠ b → (TJ9 a).2.1 ≠ (TJ9 b).2.1 := by decide +kernel
theorem tyJ9_ok : ∀ k, k < 0 → parseFieldDescriptor (TJ9 k).2.2.1 = some (tyJ9 k) := by decide +kernel
abbrev cJ9_floorDiv_7cf53 : ByteArray := prog_11_method_47_code
def yJ9_floorDiv_7cf53 : MethodName := ⟨RJ9, "floorDiv", "(II)I"⟩
abbrev cJ9_floorMod_7cf53 : ByteArray := prog_11_method_50_code
def yJ9_floorMod_7cf53 : MethodName := ⟨RJ9, "floorMod", "(II)I"⟩
abbrev cJ9_abs_0f7a4 : ByteArray := prog_11_method_59_code
def yJ9_abs_0f7a4 : MethodName := ⟨RJ9, "abs", "(I)I"⟩
abbrev cJ9_max_7cf53 : ByteArray := prog_11_method_65_code
def yJ9_max_7cf53 : MethodName := ⟨RJ9, "max", "(II)I"⟩
abbrev cJ9_min_7cf53 : ByteArray := prog_11_method_69_code
def yJ9_min_7cf53 : MethodName := ⟨RJ9, "min", "(II)I"⟩
def RJ10 : String := "java/lang/System"
def TJ10 : u_T := fun k => match k with
  | _ => ("", "", "", false)
def tyJ10 : Nat → FieldType := fun k => match k with
  | _ => .int
abbrev wsJ100 : List Cond := u_ws RJ10 TJ10 0
theorem nmJ10 : ∀ a, a < 0 → ∀ b, b < 0 → a ≠ b → (TJ10 a).2.1 ≠ (TJ10 b).2.1 := by decide +kernel
theorem tyJ10_ok : ∀ k, k < 0 → parseFieldDescriptor (TJ10 k).2.2.1 = some (tyJ10 k) := by decide +kernel
def RL : String := "CodeHuntLaw"
abbrev cL_law : ByteArray := code
def yL_law : MethodName := ⟨RL, "law", "([I)Z"⟩
def wsX0_init : List Cond := .code yX0_init cX0_init 1 none :: ([.methodLink RX0 3 objectInit, .instanceMethod objectInit, .code objectInit ⟨#[0xb1]⟩ 1 none, .arrayClass .int, .fieldLink RX0 9 "CodeHunt$Lengths" "lengthOf" "[I", .fieldLink RX0 15 "CodeHunt$Lengths" "shiftOf" "[I", .fieldLink RX0 18 "CodeHunt$Lengths" "size" "I"] ++ wsX00)
def wsX0_keep : List Cond := .code yX0_keep cX0_keep 3 none :: ([.fieldLink RX0 18 "CodeHunt$Lengths" "size" "I", .fieldLink RX0 9 "CodeHunt$Lengths" "lengthOf" "[I", .fieldLink RX0 15 "CodeHunt$Lengths" "shiftOf" "[I"] ++ wsX00)
def wsX0_haveDivisorWith : List Cond := .code yX0_haveDivisorWith cX0_haveDivisorWith 4 (some .boolean) :: ([.fieldLink RX0 18 "CodeHunt$Lengths" "size" "I", .fieldLink RX0 9 "CodeHunt$Lengths" "lengthOf" "[I"] ++ wsX00)
def wsX0_fits : List Cond := .code yX0_fits cX0_fits 4 (some .boolean) :: ([.fieldLink RX0 9 "CodeHunt$Lengths" "lengthOf" "[I", .fieldLink RX0 15 "CodeHunt$Lengths" "shiftOf" "[I"] ++ wsX00)
def wsX0_howManyFit : List Cond := .code yX0_howManyFit cX0_howManyFit 4 (some .int) :: ([.fieldLink RX0 18 "CodeHunt$Lengths" "size" "I", .methodLink RX0 22 yX0_fits, .instanceMethod yX0_fits, .selects RX0 yX0_fits yX0_fits, .initialized RX0, .code yX0_fits cX0_fits 4 (some .boolean), .fieldLink RX0 9 "CodeHunt$Lengths" "lengthOf" "[I", .fieldLink RX0 15 "CodeHunt$Lengths" "shiftOf" "[I"] ++ wsX00)
def wsX0_leastFitting : List Cond := .code yX0_leastFitting cX0_leastFitting 7 (some .long) :: ([.fieldLink RX0 18 "CodeHunt$Lengths" "size" "I", .fieldLink RX0 9 "CodeHunt$Lengths" "lengthOf" "[I", .methodLink RX0 22 yX0_fits, .instanceMethod yX0_fits, .selects RX0 yX0_fits yX0_fits, .initialized RX0, .code yX0_fits cX0_fits 4 (some .boolean), .fieldLink RX0 15 "CodeHunt$Lengths" "shiftOf" "[I"] ++ wsX00)
def wsX1_init : List Cond := .code yX1_init cX1_init 1 none :: ([.methodLink RX1 3 objectInit, .instanceMethod objectInit, .code objectInit ⟨#[0xb1]⟩ 1 none, .arrayClass .int, .fieldLink RX1 9 "CodeHunt$Peeling" "rowOf" "[I", .fieldLink RX1 15 "CodeHunt$Peeling" "shiftOf" "[I", .fieldLink RX1 18 "CodeHunt$Peeling" "strengthOf" "[I", .fieldLink RX1 21 "CodeHunt$Peeling" "times" "I", .fieldLink RX1 25 "CodeHunt$Peeling" "noise" "J"] ++ wsX10)
def wsX1_keep : List Cond := .code yX1_keep cX1_keep 4 none :: ([.fieldLink RX1 21 "CodeHunt$Peeling" "times" "I", .fieldLink RX1 9 "CodeHunt$Peeling" "rowOf" "[I", .fieldLink RX1 15 "CodeHunt$Peeling" "shiftOf" "[I", .fieldLink RX1 18 "CodeHunt$Peeling" "strengthOf" "[I"] ++ wsX10)
def wsX2_init : List Cond := .code yX2_init cX2_init 1 none :: ([.methodLink RX2 3 objectInit, .instanceMethod objectInit, .code objectInit ⟨#[0xb1]⟩ 1 none, .arrayClass .int, .fieldLink RX2 9 "CodeHunt$Reel" "items" "[I", .fieldLink RX2 15 "CodeHunt$Reel" "lost" "Z", .fieldLink RX2 19 "CodeHunt$Reel" "form" "I", .fieldLink RX2 23 "CodeHunt$Reel" "size" "I"] ++ wsX20)
def wsX2_renew : List Cond := .code yX2_renew cX2_renew 4 none :: ([.fieldLink RX2 15 "CodeHunt$Reel" "lost" "Z", .fieldLink RX2 19 "CodeHunt$Reel" "form" "I", .methodLink RX2 26 Lib.Math.min.name, .static Lib.Math.min.name, .initialized "java/lang/Math", .code Lib.Math.min.name Lib.Math.min.code 2 (some .int), .methodLink RX2 32 Lib.Math.max.name, .static Lib.Math.max.name, .code Lib.Math.max.name Lib.Math.max.code 2 (some .int), .fieldLink RX2 23 "CodeHunt$Reel" "size" "I", .fieldLink RX2 9 "CodeHunt$Reel" "items" "[I"] ++ wsX20)
def wsX2_hasItem : List Cond := .code yX2_hasItem cX2_hasItem 2 (some .boolean) :: ([.fieldLink RX2 15 "CodeHunt$Reel" "lost" "Z", .fieldLink RX2 23 "CodeHunt$Reel" "size" "I"] ++ wsX20)
def wsX2_troubleAt : List Cond := .code yX2_troubleAt cX2_troubleAt 3 (some .int) :: ([.fieldLink RX2 15 "CodeHunt$Reel" "lost" "Z", .fieldLink RX2 19 "CodeHunt$Reel" "form" "I", .methodLink RX2 35 yX2_hasItem, .instanceMethod yX2_hasItem, .selects RX2 yX2_hasItem yX2_hasItem, .initialized RX2, .code yX2_hasItem cX2_hasItem 2 (some .boolean), .fieldLink RX2 23 "CodeHunt$Reel" "size" "I"] ++ wsX20)
def wsX2_hasSpan : List Cond := .code yX2_hasSpan cX2_hasSpan 3 (some .boolean) :: ([.fieldLink RX2 23 "CodeHunt$Reel" "size" "I"] ++ wsX20)
def wsX2_itemOrZero : List Cond := .code yX2_itemOrZero cX2_itemOrZero 2 (some .int) :: ([.fieldLink RX2 9 "CodeHunt$Reel" "items" "[I", .methodLink RX2 35 yX2_hasItem, .instanceMethod yX2_hasItem, .selects RX2 yX2_hasItem yX2_hasItem, .initialized RX2, .code yX2_hasItem cX2_hasItem 2 (some .boolean), .fieldLink RX2 15 "CodeHunt$Reel" "lost" "Z", .fieldLink RX2 23 "CodeHunt$Reel" "size" "I"] ++ wsX20)
def wsX2_lowestBits : List Cond := .code yX2_lowestBits cX2_lowestBits 2 (some .int) :: ([.fieldLink RX2 19 "CodeHunt$Reel" "form" "I"] ++ wsX20)
def wsX2_keep : List Cond := .code yX2_keep cX2_keep 3 none :: ([.fieldLink RX2 9 "CodeHunt$Reel" "items" "[I", .methodLink RX2 35 yX2_hasItem, .instanceMethod yX2_hasItem, .selects RX2 yX2_hasItem yX2_hasItem, .initialized RX2, .code yX2_hasItem cX2_hasItem 2 (some .boolean), .fieldLink RX2 15 "CodeHunt$Reel" "lost" "Z", .fieldLink RX2 23 "CodeHunt$Reel" "size" "I", .methodLink RX2 39 yX2_lowestBits, .instanceMethod yX2_lowestBits, .selects RX2 yX2_lowestBits yX2_lowestBits, .code yX2_lowestBits cX2_lowestBits 2 (some .int), .fieldLink RX2 19 "CodeHunt$Reel" "form" "I"] ++ wsX20)
def wsX3_init : List Cond := .code yX3_init cX3_init 1 none :: ([.methodLink RX3 3 objectInit, .instanceMethod objectInit, .code objectInit ⟨#[0xb1]⟩ 1 none, .arrayClass .int, .fieldLink RX3 9 "CodeHunt$Row" "signs" "[I", .fieldLink RX3 15 "CodeHunt$Row" "size" "I"] ++ wsX30)
def wsX3_isNone : List Cond := .code yX3_isNone cX3_isNone 1 (some .boolean) :: ([.fieldLink RX3 15 "CodeHunt$Row" "size" "I"] ++ wsX30)
def wsJ9_floorMod_7cf53 : List Cond := .code yJ9_floorMod_7cf53 cJ9_floorMod_7cf53 3 (some .int) :: ([])
def wsX3_signAt : List Cond := .code yX3_signAt cX3_signAt 2 (some .int) :: ([.fieldLink RX3 15 "CodeHunt$Row" "size" "I", .fieldLink RX3 9 "CodeHunt$Row" "signs" "[I", .methodLink RX3 19 yJ9_floorMod_7cf53, .static yJ9_floorMod_7cf53, .initialized RJ9, .code yJ9_floorMod_7cf53 cJ9_floorMod_7cf53 3 (some .int)] ++ wsX30)
def wsJ6_bitCount_0f7a4 : List Cond := .code yJ6_bitCount_0f7a4 cJ6_bitCount_0f7a4 1 (some .int) :: ([.constant RJ6 265 (1431655765), .constant RJ6 266 (858993459), .constant RJ6 267 (252645135)])
def wsX6_stepped : List Cond := .code yX6_stepped cX6_stepped 4 (some .int) :: ([.methodLink RX6 273 yJ6_bitCount_0f7a4, .static yJ6_bitCount_0f7a4, .initialized RJ6, .code yJ6_bitCount_0f7a4 cJ6_bitCount_0f7a4 1 (some .int), .constant RJ6 265 (1431655765), .constant RJ6 266 (858993459), .constant RJ6 267 (252645135)])
def wsX3_fillByRegister : List Cond := .code yX3_fillByRegister cX3_fillByRegister 6 none :: ([.fieldLink RX3 15 "CodeHunt$Row" "size" "I", .fieldLink RX3 9 "CodeHunt$Row" "signs" "[I", .static yX6_stepped, .initialized RX6, .code yX6_stepped cX6_stepped 4 (some .int), .methodLink RX6 273 yJ6_bitCount_0f7a4, .static yJ6_bitCount_0f7a4, .initialized RJ6, .code yJ6_bitCount_0f7a4 cJ6_bitCount_0f7a4 1 (some .int), .constant RJ6 265 (1431655765), .constant RJ6 266 (858993459), .constant RJ6 267 (252645135)] ++ wsX30)
def wsX3_fillBySignsOf : List Cond := .code yX3_fillBySignsOf cX3_fillBySignsOf 4 none :: ([.methodLink RX3 29 Lib.Math.min.name, .static Lib.Math.min.name, .initialized "java/lang/Math", .code Lib.Math.min.name Lib.Math.min.code 2 (some .int), .fieldLink RX3 15 "CodeHunt$Row" "size" "I", .fieldLink RX3 9 "CodeHunt$Row" "signs" "[I"] ++ wsX30)
def wsX3_sumOver : List Cond := .code yX3_sumOver cX3_sumOver 6 (some .int) :: ([.fieldLink RX3 15 "CodeHunt$Row" "size" "I", .fieldLink RX3 9 "CodeHunt$Row" "signs" "[I", .methodLink RX3 19 yJ9_floorMod_7cf53, .static yJ9_floorMod_7cf53, .initialized RJ9, .code yJ9_floorMod_7cf53 cJ9_floorMod_7cf53 3 (some .int)] ++ wsX30)
def wsX3_takeOff : List Cond := .code yX3_takeOff cX3_takeOff 5 none :: ([.fieldLink RX3 15 "CodeHunt$Row" "size" "I", .methodLink RX3 32 yX3_signAt, .instanceMethod yX3_signAt, .selects RX3 yX3_signAt yX3_signAt, .initialized RX3, .code yX3_signAt cX3_signAt 2 (some .int), .fieldLink RX3 9 "CodeHunt$Row" "signs" "[I", .methodLink RX3 19 yJ9_floorMod_7cf53, .static yJ9_floorMod_7cf53, .initialized RJ9, .code yJ9_floorMod_7cf53 cJ9_floorMod_7cf53 3 (some .int)] ++ wsX30)
def wsX6_mixed : List Cond := .code yX6_mixed cX6_mixed 4 (some .long) :: ([.constantLong RX6 279 (31)])
def wsX3_mixedInto : List Cond := .code yX3_mixedInto cX3_mixedInto 6 (some .long) :: ([.fieldLink RX3 15 "CodeHunt$Row" "size" "I", .fieldLink RX3 9 "CodeHunt$Row" "signs" "[I", .static yX6_mixed, .initialized RX6, .code yX6_mixed cX6_mixed 4 (some .long), .constantLong RX6 279 (31)] ++ wsX30)
def wsX4_init : List Cond := .code yX4_init cX4_init 1 none :: ([.methodLink RX4 1 objectInit, .instanceMethod objectInit, .code objectInit ⟨#[0xb1]⟩ 1 none, .constantLong RX4 7 (-1), .fieldLink RX4 9 "CodeHunt$Search" "greatest" "J", .fieldLink RX4 15 "CodeHunt$Search" "next" "J", .fieldLink RX4 18 "CodeHunt$Search" "tone" "I", .fieldLink RX4 22 "CodeHunt$Search" "shift" "I"] ++ wsX40)
def wsX4_begin : List Cond := .code yX4_begin cX4_begin 1 none :: ([.constantLong RX4 7 (-1), .fieldLink RX4 9 "CodeHunt$Search" "greatest" "J", .fieldLink RX4 15 "CodeHunt$Search" "next" "J"] ++ wsX40)
def wsX4_weigh : List Cond := .code yX4_weigh cX4_weigh 5 none :: ([.fieldLink RX4 9 "CodeHunt$Search" "greatest" "J", .fieldLink RX4 15 "CodeHunt$Search" "next" "J", .fieldLink RX4 18 "CodeHunt$Search" "tone" "I", .fieldLink RX4 22 "CodeHunt$Search" "shift" "I"] ++ wsX40)
def wsX5_init : List Cond := .code yX5_init cX5_init 1 none :: ([.methodLink RX5 3 objectInit, .instanceMethod objectInit, .code objectInit ⟨#[0xb1]⟩ 1 none, .arrayClass .int, .fieldLink RX5 9 "CodeHunt$Window" "x" "[I", .fieldLink RX5 15 "CodeHunt$Window" "y" "[I", .fieldLink RX5 18 "CodeHunt$Window" "turnedX" "[I", .fieldLink RX5 21 "CodeHunt$Window" "turnedY" "[I", .fieldLink RX5 24 "CodeHunt$Window" "size" "I"] ++ wsX50)
def wsX5_turnBack : List Cond := .code yX5_turnBack cX5_turnBack 7 none :: ([.fieldLink RX5 24 "CodeHunt$Window" "size" "I", .fieldLink RX5 15 "CodeHunt$Window" "y" "[I", .fieldLink RX5 9 "CodeHunt$Window" "x" "[I", .fieldLink RX5 18 "CodeHunt$Window" "turnedX" "[I", .fieldLink RX5 21 "CodeHunt$Window" "turnedY" "[I"] ++ wsX50)
def wsX5_squaresOfX : List Cond := .code yX5_squaresOfX cX5_squaresOfX 4 (some .long) :: ([.fieldLink RX5 24 "CodeHunt$Window" "size" "I", .fieldLink RX5 9 "CodeHunt$Window" "x" "[I"] ++ wsX50)
def wsX6_init_r1 : List Cond := [Cond.methodLink RX6 1 objectInit, Cond.instanceMethod objectInit, Cond.code objectInit ⟨#[0xb1]⟩ 1 none, Cond.classLink RX6 9 RX3, Cond.fieldLink RX6 11 "CodeHunt" "rows" "[LCodeHunt$Row;", Cond.classLink RX6 15 RX2, Cond.fieldLink RX6 17 "CodeHunt" "reels" "[LCodeHunt$Reel;", Cond.classLink RX6 21 RX5, Cond.instantiable RX5 5, Cond.initialized RX5, Cond.fieldLink RX6 24 "CodeHunt" "window" "LCodeHunt$Window;", Cond.classLink RX6 28 RX4, Cond.instantiable RX4 4, Cond.initialized RX4, Cond.fieldLink RX6 31 "CodeHunt" "search" "LCodeHunt$Search;", Cond.classLink RX6 35 RX1, Cond.instantiable RX1 5, Cond.initialized RX1, Cond.fieldLink RX6 38 "CodeHunt" "peeling" "LCodeHunt$Peeling;", Cond.classLink RX6 42 RX0, Cond.instantiable RX0 3, Cond.initialized RX0, Cond.fieldLink RX6 45 "CodeHunt" "lengths" "LCodeHunt$Lengths;", Cond.fieldLink RX6 49 "CodeHunt" "doubt" "I"]
def wsX6_init_r2 : List Cond := [Cond.fieldLink RX6 53 "CodeHunt" "finding" "I", Cond.instantiable RX3 2, Cond.initialized RX3, Cond.instantiable RX2 4, Cond.initialized RX2, Cond.instanceMethod yX5_init, Cond.code yX5_init cX5_init 1 none, Cond.methodLink RX5 3 objectInit, Cond.arrayClass .int, Cond.fieldLink RX5 9 "CodeHunt$Window" "x" "[I", Cond.fieldLink RX5 15 "CodeHunt$Window" "y" "[I", Cond.fieldLink RX5 18 "CodeHunt$Window" "turnedX" "[I", Cond.fieldLink RX5 21 "CodeHunt$Window" "turnedY" "[I", Cond.fieldLink RX5 24 "CodeHunt$Window" "size" "I", Cond.instanceMethod yX4_init, Cond.code yX4_init cX4_init 1 none, Cond.methodLink RX4 1 objectInit, Cond.constantLong RX4 7 (-1), Cond.fieldLink RX4 9 "CodeHunt$Search" "greatest" "J", Cond.fieldLink RX4 15 "CodeHunt$Search" "next" "J", Cond.fieldLink RX4 18 "CodeHunt$Search" "tone" "I", Cond.fieldLink RX4 22 "CodeHunt$Search" "shift" "I", Cond.instanceMethod yX1_init, Cond.code yX1_init cX1_init 1 none]
def wsX6_init_r3 : List Cond := [Cond.methodLink RX1 3 objectInit, Cond.fieldLink RX1 9 "CodeHunt$Peeling" "rowOf" "[I", Cond.fieldLink RX1 15 "CodeHunt$Peeling" "shiftOf" "[I", Cond.fieldLink RX1 18 "CodeHunt$Peeling" "strengthOf" "[I", Cond.fieldLink RX1 21 "CodeHunt$Peeling" "times" "I", Cond.fieldLink RX1 25 "CodeHunt$Peeling" "noise" "J", Cond.instanceMethod yX0_init, Cond.code yX0_init cX0_init 1 none, Cond.methodLink RX0 3 objectInit, Cond.fieldLink RX0 9 "CodeHunt$Lengths" "lengthOf" "[I", Cond.fieldLink RX0 15 "CodeHunt$Lengths" "shiftOf" "[I", Cond.fieldLink RX0 18 "CodeHunt$Lengths" "size" "I", Cond.instanceMethod yX3_init, Cond.code yX3_init cX3_init 1 none, Cond.methodLink RX3 3 objectInit, Cond.fieldLink RX3 9 "CodeHunt$Row" "signs" "[I", Cond.fieldLink RX3 15 "CodeHunt$Row" "size" "I", Cond.instanceMethod yX2_init, Cond.code yX2_init cX2_init 1 none, Cond.methodLink RX2 3 objectInit, Cond.fieldLink RX2 9 "CodeHunt$Reel" "items" "[I", Cond.fieldLink RX2 15 "CodeHunt$Reel" "lost" "Z", Cond.fieldLink RX2 19 "CodeHunt$Reel" "form" "I", Cond.fieldLink RX2 23 "CodeHunt$Reel" "size" "I"]
def wsX6_init : List Cond := .code yX6_init cX6_init 2 none :: ((wsX6_init_r1 ++ (wsX6_init_r2 ++ wsX6_init_r3)) ++ wsX60 ++ wsX50 ++ wsX40 ++ wsX10 ++ wsX00 ++ wsX30 ++ wsX20)
def wsX6_isRow : List Cond := .code yX6_isRow cX6_isRow 1 (some .boolean) :: ([])
def wsX6_isBits : List Cond := .code yX6_isBits cX6_isBits 1 (some .boolean) :: ([])
def wsX6_isRegister : List Cond := .code yX6_isRegister cX6_isRegister 4 (some .boolean) :: ([.methodLink RX6 77 yX6_isBits, .static yX6_isBits, .initialized RX6, .code yX6_isBits cX6_isBits 1 (some .boolean)])
def wsX6_make_r1 : List Cond := [Cond.fieldLink RX6 11 "CodeHunt" "rows" "[LCodeHunt$Row;", Cond.methodLink RX6 58 yX6_isRow, Cond.static yX6_isRow, Cond.initialized RX6, Cond.code yX6_isRow cX6_isRow 1 (some .boolean), Cond.methodLink RX6 62 yX6_isRegister, Cond.static yX6_isRegister, Cond.code yX6_isRegister cX6_isRegister 4 (some .boolean), Cond.methodLink RX6 77 yX6_isBits, Cond.static yX6_isBits, Cond.code yX6_isBits cX6_isBits 1 (some .boolean), Cond.methodLink RX6 66 yX3_fillByRegister, Cond.instanceMethod yX3_fillByRegister, Cond.selects RX3 yX3_fillByRegister yX3_fillByRegister, Cond.initialized RX3, Cond.code yX3_fillByRegister cX3_fillByRegister 6 none, Cond.fieldLink RX3 15 "CodeHunt$Row" "size" "I", Cond.fieldLink RX3 9 "CodeHunt$Row" "signs" "[I", Cond.static yX6_stepped, Cond.code yX6_stepped cX6_stepped 4 (some .int), Cond.methodLink RX6 273 yJ6_bitCount_0f7a4, Cond.static yJ6_bitCount_0f7a4, Cond.initialized RJ6, Cond.code yJ6_bitCount_0f7a4 cJ6_bitCount_0f7a4 1 (some .int)]
def wsX6_make_r2 : List Cond := [Cond.constant RJ6 265 (1431655765), Cond.constant RJ6 266 (858993459), Cond.constant RJ6 267 (252645135)]
def wsX6_make : List Cond := .code yX6_make cX6_make 5 (some .int) :: ((wsX6_make_r1 ++ wsX6_make_r2) ++ wsX60 ++ wsX30)
def wsX6_stepsToReturn : List Cond := .code yX6_stepsToReturn cX6_stepsToReturn 5 (some .int) :: ([.methodLink RX6 276 yX6_stepped, .static yX6_stepped, .initialized RX6, .code yX6_stepped cX6_stepped 4 (some .int), .methodLink RX6 273 yJ6_bitCount_0f7a4, .static yJ6_bitCount_0f7a4, .initialized RJ6, .code yJ6_bitCount_0f7a4 cJ6_bitCount_0f7a4 1 (some .int), .constant RJ6 265 (1431655765), .constant RJ6 266 (858993459), .constant RJ6 267 (252645135)])
def wsX6_period : List Cond := .code yX6_period cX6_period 4 (some .int) :: ([.methodLink RX6 62 yX6_isRegister, .static yX6_isRegister, .initialized RX6, .code yX6_isRegister cX6_isRegister 4 (some .boolean), .methodLink RX6 77 yX6_isBits, .static yX6_isBits, .code yX6_isBits cX6_isBits 1 (some .boolean), .methodLink RX6 73 yX6_stepsToReturn, .static yX6_stepsToReturn, .code yX6_stepsToReturn cX6_stepsToReturn 5 (some .int), .methodLink RX6 276 yX6_stepped, .static yX6_stepped, .code yX6_stepped cX6_stepped 4 (some .int), .methodLink RX6 273 yJ6_bitCount_0f7a4, .static yJ6_bitCount_0f7a4, .initialized RJ6, .code yJ6_bitCount_0f7a4 cJ6_bitCount_0f7a4 1 (some .int), .constant RJ6 265 (1431655765), .constant RJ6 266 (858993459), .constant RJ6 267 (252645135)])
def wsX6_full : List Cond := .code yX6_full cX6_full 5 (some .int) :: ([.methodLink RX6 77 yX6_isBits, .static yX6_isBits, .initialized RX6, .code yX6_isBits cX6_isBits 1 (some .boolean), .methodLink RX6 73 yX6_stepsToReturn, .static yX6_stepsToReturn, .code yX6_stepsToReturn cX6_stepsToReturn 5 (some .int), .methodLink RX6 276 yX6_stepped, .static yX6_stepped, .code yX6_stepped cX6_stepped 4 (some .int), .methodLink RX6 273 yJ6_bitCount_0f7a4, .static yJ6_bitCount_0f7a4, .initialized RJ6, .code yJ6_bitCount_0f7a4 cJ6_bitCount_0f7a4 1 (some .int), .constant RJ6 265 (1431655765), .constant RJ6 266 (858993459), .constant RJ6 267 (252645135)])
def wsX6_isShift : List Cond := .code yX6_isShift cX6_isShift 1 (some .boolean) :: ([])
def wsX6_arePaired : List Cond := .code yX6_arePaired cX6_arePaired 3 (some .boolean) :: ([.fieldLink RX6 11 "CodeHunt" "rows" "[LCodeHunt$Row;", .methodLink RX6 116 yX3_isNone, .instanceMethod yX3_isNone, .selects RX3 yX3_isNone yX3_isNone, .initialized RX3, .code yX3_isNone cX3_isNone 1 (some .boolean), .fieldLink RX3 15 "CodeHunt$Row" "size" "I"] ++ wsX60 ++ wsX30)
def wsX6_join_r1 : List Cond := [Cond.fieldLink RX6 11 "CodeHunt" "rows" "[LCodeHunt$Row;", Cond.fieldLink RX6 24 "CodeHunt" "window" "LCodeHunt$Window;", Cond.methodLink RX6 58 yX6_isRow, Cond.static yX6_isRow, Cond.initialized RX6, Cond.code yX6_isRow cX6_isRow 1 (some .boolean), Cond.methodLink RX6 80 yX6_isShift, Cond.static yX6_isShift, Cond.code yX6_isShift cX6_isShift 1 (some .boolean), Cond.methodLink RX6 83 yX6_arePaired, Cond.instanceMethod yX6_arePaired, Cond.selects RX6 yX6_arePaired yX6_arePaired, Cond.code yX6_arePaired cX6_arePaired 3 (some .boolean), Cond.methodLink RX6 116 yX3_isNone, Cond.instanceMethod yX3_isNone, Cond.selects RX3 yX3_isNone yX3_isNone, Cond.initialized RX3, Cond.code yX3_isNone cX3_isNone 1 (some .boolean), Cond.fieldLink RX3 15 "CodeHunt$Row" "size" "I", Cond.methodLink RX6 91 yX3_signAt, Cond.instanceMethod yX3_signAt, Cond.selects RX3 yX3_signAt yX3_signAt, Cond.code yX3_signAt cX3_signAt 2 (some .int), Cond.fieldLink RX3 9 "CodeHunt$Row" "signs" "[I"]
def wsX6_join_r2 : List Cond := [Cond.methodLink RX3 19 yJ9_floorMod_7cf53, Cond.static yJ9_floorMod_7cf53, Cond.initialized RJ9, Cond.code yJ9_floorMod_7cf53 cJ9_floorMod_7cf53 3 (some .int), Cond.methodLink RX6 95 yX3_fillBySignsOf, Cond.instanceMethod yX3_fillBySignsOf, Cond.selects RX3 yX3_fillBySignsOf yX3_fillBySignsOf, Cond.code yX3_fillBySignsOf cX3_fillBySignsOf 4 none, Cond.methodLink RX3 29 Lib.Math.min.name, Cond.static Lib.Math.min.name, Cond.initialized "java/lang/Math", Cond.code Lib.Math.min.name Lib.Math.min.code 2 (some .int)]
def wsX6_join : List Cond := .code yX6_join cX6_join 7 (some .int) :: ((wsX6_join_r1 ++ wsX6_join_r2) ++ wsX60 ++ wsX30 ++ wsX50)
def wsX6_isReel : List Cond := .code yX6_isReel cX6_isReel 1 (some .boolean) :: ([])
def wsX6_isSize : List Cond := .code yX6_isSize cX6_isSize 1 (some .boolean) :: ([])
def wsX6_found : List Cond := .code yX6_found cX6_found 2 (some .int) :: ([.fieldLink RX6 53 "CodeHunt" "finding" "I"] ++ wsX60)
def wsX6_load_r1 : List Cond := [Cond.fieldLink RX6 17 "CodeHunt" "reels" "[LCodeHunt$Reel;", Cond.fieldLink RX6 11 "CodeHunt" "rows" "[LCodeHunt$Row;", Cond.methodLink RX6 58 yX6_isRow, Cond.static yX6_isRow, Cond.initialized RX6, Cond.code yX6_isRow cX6_isRow 1 (some .boolean), Cond.methodLink RX6 99 yX6_isReel, Cond.static yX6_isReel, Cond.code yX6_isReel cX6_isReel 1 (some .boolean), Cond.methodLink RX6 102 yX6_isSize, Cond.static yX6_isSize, Cond.code yX6_isSize cX6_isSize 1 (some .boolean), Cond.methodLink RX6 109 yX6_found, Cond.instanceMethod yX6_found, Cond.selects RX6 yX6_found yX6_found, Cond.code yX6_found cX6_found 2 (some .int), Cond.fieldLink RX6 53 "CodeHunt" "finding" "I", Cond.methodLink RX6 95 yX3_fillBySignsOf, Cond.instanceMethod yX3_fillBySignsOf, Cond.selects RX3 yX3_fillBySignsOf yX3_fillBySignsOf, Cond.initialized RX3, Cond.code yX3_fillBySignsOf cX3_fillBySignsOf 4 none, Cond.methodLink RX3 29 Lib.Math.min.name, Cond.static Lib.Math.min.name]
def wsX6_load_r2 : List Cond := [Cond.initialized "java/lang/Math", Cond.code Lib.Math.min.name Lib.Math.min.code 2 (some .int), Cond.fieldLink RX3 15 "CodeHunt$Row" "size" "I", Cond.fieldLink RX3 9 "CodeHunt$Row" "signs" "[I"]
def wsX6_load : List Cond := .code yX6_load cX6_load 4 (some .int) :: ((wsX6_load_r1 ++ wsX6_load_r2) ++ wsX60 ++ wsX20 ++ wsX30)
def wsX6_drop : List Cond := .code yX6_drop cX6_drop 3 (some .int) :: ([.fieldLink RX6 11 "CodeHunt" "rows" "[LCodeHunt$Row;", .methodLink RX6 58 yX6_isRow, .static yX6_isRow, .initialized RX6, .code yX6_isRow cX6_isRow 1 (some .boolean), .methodLink RX6 116 yX3_isNone, .instanceMethod yX3_isNone, .selects RX3 yX3_isNone yX3_isNone, .initialized RX3, .code yX3_isNone cX3_isNone 1 (some .boolean), .fieldLink RX3 15 "CodeHunt$Row" "size" "I"] ++ wsX60 ++ wsX30)
def wsX6_sign : List Cond := .code yX6_sign cX6_sign 3 (some .int) :: ([.fieldLink RX6 11 "CodeHunt" "rows" "[LCodeHunt$Row;", .methodLink RX6 58 yX6_isRow, .static yX6_isRow, .initialized RX6, .code yX6_isRow cX6_isRow 1 (some .boolean), .methodLink RX6 80 yX6_isShift, .static yX6_isShift, .code yX6_isShift cX6_isShift 1 (some .boolean), .methodLink RX6 116 yX3_isNone, .instanceMethod yX3_isNone, .selects RX3 yX3_isNone yX3_isNone, .initialized RX3, .code yX3_isNone cX3_isNone 1 (some .boolean), .fieldLink RX3 15 "CodeHunt$Row" "size" "I", .methodLink RX6 91 yX3_signAt, .instanceMethod yX3_signAt, .selects RX3 yX3_signAt yX3_signAt, .code yX3_signAt cX3_signAt 2 (some .int), .fieldLink RX3 9 "CodeHunt$Row" "signs" "[I", .methodLink RX3 19 yJ9_floorMod_7cf53, .static yJ9_floorMod_7cf53, .initialized RJ9, .code yJ9_floorMod_7cf53 cJ9_floorMod_7cf53 3 (some .int)] ++ wsX60 ++ wsX30)
def wsX6_like_r1 : List Cond := [Cond.fieldLink RX6 11 "CodeHunt" "rows" "[LCodeHunt$Row;", Cond.methodLink RX6 58 yX6_isRow, Cond.static yX6_isRow, Cond.initialized RX6, Cond.code yX6_isRow cX6_isRow 1 (some .boolean), Cond.methodLink RX6 80 yX6_isShift, Cond.static yX6_isShift, Cond.code yX6_isShift cX6_isShift 1 (some .boolean), Cond.methodLink RX6 83 yX6_arePaired, Cond.instanceMethod yX6_arePaired, Cond.selects RX6 yX6_arePaired yX6_arePaired, Cond.code yX6_arePaired cX6_arePaired 3 (some .boolean), Cond.methodLink RX6 116 yX3_isNone, Cond.instanceMethod yX3_isNone, Cond.selects RX3 yX3_isNone yX3_isNone, Cond.initialized RX3, Cond.code yX3_isNone cX3_isNone 1 (some .boolean), Cond.fieldLink RX3 15 "CodeHunt$Row" "size" "I", Cond.methodLink RX6 123 yX3_sumOver, Cond.instanceMethod yX3_sumOver, Cond.selects RX3 yX3_sumOver yX3_sumOver, Cond.code yX3_sumOver cX3_sumOver 6 (some .int), Cond.fieldLink RX3 9 "CodeHunt$Row" "signs" "[I", Cond.methodLink RX3 19 yJ9_floorMod_7cf53]
def wsX6_like_r2 : List Cond := [Cond.static yJ9_floorMod_7cf53, Cond.initialized RJ9, Cond.code yJ9_floorMod_7cf53 cJ9_floorMod_7cf53 3 (some .int)]
def wsX6_like : List Cond := .code yX6_like cX6_like 4 (some .int) :: ((wsX6_like_r1 ++ wsX6_like_r2) ++ wsX60 ++ wsX30)
def wsX6_most_r1 : List Cond := [Cond.fieldLink RX6 11 "CodeHunt" "rows" "[LCodeHunt$Row;", Cond.methodLink RX6 127 Lib.Math.abs.name, Cond.static Lib.Math.abs.name, Cond.initialized "java/lang/Math", Cond.code Lib.Math.abs.name Lib.Math.abs.code 1 (some .int), Cond.methodLink RX6 132 Lib.Math.max.name, Cond.static Lib.Math.max.name, Cond.code Lib.Math.max.name Lib.Math.max.code 2 (some .int), Cond.methodLink RX6 58 yX6_isRow, Cond.static yX6_isRow, Cond.initialized RX6, Cond.code yX6_isRow cX6_isRow 1 (some .boolean), Cond.methodLink RX6 83 yX6_arePaired, Cond.instanceMethod yX6_arePaired, Cond.selects RX6 yX6_arePaired yX6_arePaired, Cond.code yX6_arePaired cX6_arePaired 3 (some .boolean), Cond.methodLink RX6 116 yX3_isNone, Cond.instanceMethod yX3_isNone, Cond.selects RX3 yX3_isNone yX3_isNone, Cond.initialized RX3, Cond.code yX3_isNone cX3_isNone 1 (some .boolean), Cond.fieldLink RX3 15 "CodeHunt$Row" "size" "I", Cond.methodLink RX6 123 yX3_sumOver, Cond.instanceMethod yX3_sumOver]
def wsX6_most_r2 : List Cond := [Cond.selects RX3 yX3_sumOver yX3_sumOver, Cond.code yX3_sumOver cX3_sumOver 6 (some .int), Cond.fieldLink RX3 9 "CodeHunt$Row" "signs" "[I", Cond.methodLink RX3 19 yJ9_floorMod_7cf53, Cond.static yJ9_floorMod_7cf53, Cond.initialized RJ9, Cond.code yJ9_floorMod_7cf53 cJ9_floorMod_7cf53 3 (some .int)]
def wsX6_most : List Cond := .code yX6_most cX6_most 5 (some .int) :: ((wsX6_most_r1 ++ wsX6_most_r2) ++ wsX60 ++ wsX30)
def wsX6_isPlace : List Cond := .code yX6_isPlace cX6_isPlace 1 (some .boolean) :: ([])
def wsX6_quietened : List Cond := .code yX6_quietened cX6_quietened 1 (some .int) :: ([])
def wsX6_listen : List Cond := .code yX6_listen cX6_listen 4 none :: ([.fieldLink RX6 24 "CodeHunt" "window" "LCodeHunt$Window;", .fieldLink RX6 17 "CodeHunt" "reels" "[LCodeHunt$Reel;", .methodLink RX6 238 yX2_itemOrZero, .instanceMethod yX2_itemOrZero, .selects RX2 yX2_itemOrZero yX2_itemOrZero, .initialized RX2, .code yX2_itemOrZero cX2_itemOrZero 2 (some .int), .fieldLink RX2 9 "CodeHunt$Reel" "items" "[I", .methodLink RX2 35 yX2_hasItem, .instanceMethod yX2_hasItem, .selects RX2 yX2_hasItem yX2_hasItem, .code yX2_hasItem cX2_hasItem 2 (some .boolean), .fieldLink RX2 15 "CodeHunt$Reel" "lost" "Z", .fieldLink RX2 23 "CodeHunt$Reel" "size" "I", .methodLink RX6 282 yX6_quietened, .static yX6_quietened, .initialized RX6, .code yX6_quietened cX6_quietened 1 (some .int)] ++ wsX60 ++ wsX50 ++ wsX20)
def wsX6_heard_r1 : List Cond := [Cond.fieldLink RX6 11 "CodeHunt" "rows" "[LCodeHunt$Row;", Cond.constant RX6 141 (-2147483648), Cond.fieldLink RX6 24 "CodeHunt" "window" "LCodeHunt$Window;", Cond.methodLink RX6 58 yX6_isRow, Cond.static yX6_isRow, Cond.initialized RX6, Cond.code yX6_isRow cX6_isRow 1 (some .boolean), Cond.methodLink RX6 136 yX6_isPlace, Cond.static yX6_isPlace, Cond.code yX6_isPlace cX6_isPlace 1 (some .boolean), Cond.methodLink RX6 80 yX6_isShift, Cond.static yX6_isShift, Cond.code yX6_isShift cX6_isShift 1 (some .boolean), Cond.methodLink RX6 116 yX3_isNone, Cond.instanceMethod yX3_isNone, Cond.selects RX3 yX3_isNone yX3_isNone, Cond.initialized RX3, Cond.code yX3_isNone cX3_isNone 1 (some .boolean), Cond.fieldLink RX3 15 "CodeHunt$Row" "size" "I", Cond.methodLink RX6 142 yX6_listen, Cond.instanceMethod yX6_listen, Cond.selects RX6 yX6_listen yX6_listen, Cond.code yX6_listen cX6_listen 4 none, Cond.fieldLink RX6 17 "CodeHunt" "reels" "[LCodeHunt$Reel;"]
def wsX6_heard_r2 : List Cond := [Cond.methodLink RX6 238 yX2_itemOrZero, Cond.instanceMethod yX2_itemOrZero, Cond.selects RX2 yX2_itemOrZero yX2_itemOrZero, Cond.initialized RX2, Cond.code yX2_itemOrZero cX2_itemOrZero 2 (some .int), Cond.fieldLink RX2 9 "CodeHunt$Reel" "items" "[I", Cond.methodLink RX2 35 yX2_hasItem, Cond.instanceMethod yX2_hasItem, Cond.selects RX2 yX2_hasItem yX2_hasItem, Cond.code yX2_hasItem cX2_hasItem 2 (some .boolean), Cond.fieldLink RX2 15 "CodeHunt$Reel" "lost" "Z", Cond.fieldLink RX2 23 "CodeHunt$Reel" "size" "I", Cond.methodLink RX6 282 yX6_quietened, Cond.static yX6_quietened, Cond.code yX6_quietened cX6_quietened 1 (some .int), Cond.methodLink RX6 146 yX5_turnBack, Cond.instanceMethod yX5_turnBack, Cond.selects RX5 yX5_turnBack yX5_turnBack, Cond.initialized RX5, Cond.code yX5_turnBack cX5_turnBack 7 none, Cond.fieldLink RX5 24 "CodeHunt$Window" "size" "I", Cond.fieldLink RX5 15 "CodeHunt$Window" "y" "[I", Cond.fieldLink RX5 9 "CodeHunt$Window" "x" "[I", Cond.fieldLink RX5 18 "CodeHunt$Window" "turnedX" "[I"]
def wsX6_heard_r3 : List Cond := [Cond.fieldLink RX5 21 "CodeHunt$Window" "turnedY" "[I", Cond.methodLink RX6 123 yX3_sumOver, Cond.instanceMethod yX3_sumOver, Cond.selects RX3 yX3_sumOver yX3_sumOver, Cond.code yX3_sumOver cX3_sumOver 6 (some .int), Cond.fieldLink RX3 9 "CodeHunt$Row" "signs" "[I", Cond.methodLink RX3 19 yJ9_floorMod_7cf53, Cond.static yJ9_floorMod_7cf53, Cond.initialized RJ9, Cond.code yJ9_floorMod_7cf53 cJ9_floorMod_7cf53 3 (some .int)]
def wsX6_heard : List Cond := .code yX6_heard cX6_heard 6 (some .int) :: ((wsX6_heard_r1 ++ (wsX6_heard_r2 ++ wsX6_heard_r3)) ++ wsX60 ++ wsX30 ++ wsX50 ++ wsX20)
def wsX6_searchFor_r1 : List Cond := [Cond.fieldLink RX6 11 "CodeHunt" "rows" "[LCodeHunt$Row;", Cond.fieldLink RX6 31 "CodeHunt" "search" "LCodeHunt$Search;", Cond.fieldLink RX6 24 "CodeHunt" "window" "LCodeHunt$Window;", Cond.methodLink RX6 58 yX6_isRow, Cond.static yX6_isRow, Cond.initialized RX6, Cond.code yX6_isRow cX6_isRow 1 (some .boolean), Cond.methodLink RX6 136 yX6_isPlace, Cond.static yX6_isPlace, Cond.code yX6_isPlace cX6_isPlace 1 (some .boolean), Cond.methodLink RX6 116 yX3_isNone, Cond.instanceMethod yX3_isNone, Cond.selects RX3 yX3_isNone yX3_isNone, Cond.initialized RX3, Cond.code yX3_isNone cX3_isNone 1 (some .boolean), Cond.fieldLink RX3 15 "CodeHunt$Row" "size" "I", Cond.methodLink RX6 142 yX6_listen, Cond.instanceMethod yX6_listen, Cond.selects RX6 yX6_listen yX6_listen, Cond.code yX6_listen cX6_listen 4 none, Cond.fieldLink RX6 17 "CodeHunt" "reels" "[LCodeHunt$Reel;", Cond.methodLink RX6 238 yX2_itemOrZero, Cond.instanceMethod yX2_itemOrZero, Cond.selects RX2 yX2_itemOrZero yX2_itemOrZero]
def wsX6_searchFor_r2 : List Cond := [Cond.initialized RX2, Cond.code yX2_itemOrZero cX2_itemOrZero 2 (some .int), Cond.fieldLink RX2 9 "CodeHunt$Reel" "items" "[I", Cond.methodLink RX2 35 yX2_hasItem, Cond.instanceMethod yX2_hasItem, Cond.selects RX2 yX2_hasItem yX2_hasItem, Cond.code yX2_hasItem cX2_hasItem 2 (some .boolean), Cond.fieldLink RX2 15 "CodeHunt$Reel" "lost" "Z", Cond.fieldLink RX2 23 "CodeHunt$Reel" "size" "I", Cond.methodLink RX6 282 yX6_quietened, Cond.static yX6_quietened, Cond.code yX6_quietened cX6_quietened 1 (some .int), Cond.methodLink RX6 288 yX4_begin, Cond.instanceMethod yX4_begin, Cond.selects RX4 yX4_begin yX4_begin, Cond.initialized RX4, Cond.code yX4_begin cX4_begin 1 none, Cond.constantLong RX4 7 (-1), Cond.fieldLink RX4 9 "CodeHunt$Search" "greatest" "J", Cond.fieldLink RX4 15 "CodeHunt$Search" "next" "J", Cond.methodLink RX6 146 yX5_turnBack, Cond.instanceMethod yX5_turnBack, Cond.selects RX5 yX5_turnBack yX5_turnBack, Cond.initialized RX5]
def wsX6_searchFor_r3 : List Cond := [Cond.code yX5_turnBack cX5_turnBack 7 none, Cond.fieldLink RX5 24 "CodeHunt$Window" "size" "I", Cond.fieldLink RX5 15 "CodeHunt$Window" "y" "[I", Cond.fieldLink RX5 9 "CodeHunt$Window" "x" "[I", Cond.fieldLink RX5 18 "CodeHunt$Window" "turnedX" "[I", Cond.fieldLink RX5 21 "CodeHunt$Window" "turnedY" "[I", Cond.methodLink RX6 123 yX3_sumOver, Cond.instanceMethod yX3_sumOver, Cond.selects RX3 yX3_sumOver yX3_sumOver, Cond.code yX3_sumOver cX3_sumOver 6 (some .int), Cond.fieldLink RX3 9 "CodeHunt$Row" "signs" "[I", Cond.methodLink RX3 19 yJ9_floorMod_7cf53, Cond.static yJ9_floorMod_7cf53, Cond.initialized RJ9, Cond.code yJ9_floorMod_7cf53 cJ9_floorMod_7cf53 3 (some .int), Cond.methodLink RX6 291 yX4_weigh, Cond.instanceMethod yX4_weigh, Cond.selects RX4 yX4_weigh yX4_weigh, Cond.code yX4_weigh cX4_weigh 5 none, Cond.fieldLink RX4 18 "CodeHunt$Search" "tone" "I", Cond.fieldLink RX4 22 "CodeHunt$Search" "shift" "I"]
def wsX6_searchFor : List Cond := .code yX6_searchFor cX6_searchFor 9 (some .int) :: ((wsX6_searchFor_r1 ++ (wsX6_searchFor_r2 ++ wsX6_searchFor_r3)) ++ wsX60 ++ wsX30 ++ wsX50 ++ wsX20 ++ wsX40)
def wsX6_search_r1 : List Cond := [Cond.fieldLink RX6 31 "CodeHunt" "search" "LCodeHunt$Search;", Cond.methodLink RX6 156 yX6_searchFor, Cond.instanceMethod yX6_searchFor, Cond.selects RX6 yX6_searchFor yX6_searchFor, Cond.initialized RX6, Cond.code yX6_searchFor cX6_searchFor 9 (some .int), Cond.fieldLink RX6 11 "CodeHunt" "rows" "[LCodeHunt$Row;", Cond.fieldLink RX6 24 "CodeHunt" "window" "LCodeHunt$Window;", Cond.methodLink RX6 58 yX6_isRow, Cond.static yX6_isRow, Cond.code yX6_isRow cX6_isRow 1 (some .boolean), Cond.methodLink RX6 136 yX6_isPlace, Cond.static yX6_isPlace, Cond.code yX6_isPlace cX6_isPlace 1 (some .boolean), Cond.methodLink RX6 116 yX3_isNone, Cond.instanceMethod yX3_isNone, Cond.selects RX3 yX3_isNone yX3_isNone, Cond.initialized RX3, Cond.code yX3_isNone cX3_isNone 1 (some .boolean), Cond.fieldLink RX3 15 "CodeHunt$Row" "size" "I", Cond.methodLink RX6 142 yX6_listen, Cond.instanceMethod yX6_listen, Cond.selects RX6 yX6_listen yX6_listen, Cond.code yX6_listen cX6_listen 4 none]
def wsX6_search_r2 : List Cond := [Cond.fieldLink RX6 17 "CodeHunt" "reels" "[LCodeHunt$Reel;", Cond.methodLink RX6 238 yX2_itemOrZero, Cond.instanceMethod yX2_itemOrZero, Cond.selects RX2 yX2_itemOrZero yX2_itemOrZero, Cond.initialized RX2, Cond.code yX2_itemOrZero cX2_itemOrZero 2 (some .int), Cond.fieldLink RX2 9 "CodeHunt$Reel" "items" "[I", Cond.methodLink RX2 35 yX2_hasItem, Cond.instanceMethod yX2_hasItem, Cond.selects RX2 yX2_hasItem yX2_hasItem, Cond.code yX2_hasItem cX2_hasItem 2 (some .boolean), Cond.fieldLink RX2 15 "CodeHunt$Reel" "lost" "Z", Cond.fieldLink RX2 23 "CodeHunt$Reel" "size" "I", Cond.methodLink RX6 282 yX6_quietened, Cond.static yX6_quietened, Cond.code yX6_quietened cX6_quietened 1 (some .int), Cond.methodLink RX6 288 yX4_begin, Cond.instanceMethod yX4_begin, Cond.selects RX4 yX4_begin yX4_begin, Cond.initialized RX4, Cond.code yX4_begin cX4_begin 1 none, Cond.constantLong RX4 7 (-1), Cond.fieldLink RX4 9 "CodeHunt$Search" "greatest" "J", Cond.fieldLink RX4 15 "CodeHunt$Search" "next" "J"]
def wsX6_search_r3 : List Cond := [Cond.methodLink RX6 146 yX5_turnBack, Cond.instanceMethod yX5_turnBack, Cond.selects RX5 yX5_turnBack yX5_turnBack, Cond.initialized RX5, Cond.code yX5_turnBack cX5_turnBack 7 none, Cond.fieldLink RX5 24 "CodeHunt$Window" "size" "I", Cond.fieldLink RX5 15 "CodeHunt$Window" "y" "[I", Cond.fieldLink RX5 9 "CodeHunt$Window" "x" "[I", Cond.fieldLink RX5 18 "CodeHunt$Window" "turnedX" "[I", Cond.fieldLink RX5 21 "CodeHunt$Window" "turnedY" "[I", Cond.methodLink RX6 123 yX3_sumOver, Cond.instanceMethod yX3_sumOver, Cond.selects RX3 yX3_sumOver yX3_sumOver, Cond.code yX3_sumOver cX3_sumOver 6 (some .int), Cond.fieldLink RX3 9 "CodeHunt$Row" "signs" "[I", Cond.methodLink RX3 19 yJ9_floorMod_7cf53, Cond.static yJ9_floorMod_7cf53, Cond.initialized RJ9, Cond.code yJ9_floorMod_7cf53 cJ9_floorMod_7cf53 3 (some .int), Cond.methodLink RX6 291 yX4_weigh, Cond.instanceMethod yX4_weigh, Cond.selects RX4 yX4_weigh yX4_weigh, Cond.code yX4_weigh cX4_weigh 5 none, Cond.fieldLink RX4 18 "CodeHunt$Search" "tone" "I"]
def wsX6_search_r4 : List Cond := [Cond.fieldLink RX4 22 "CodeHunt$Search" "shift" "I"]
def wsX6_search : List Cond := .code yX6_search cX6_search 4 (some .int) :: ((wsX6_search_r1 ++ (wsX6_search_r2 ++ (wsX6_search_r3 ++ wsX6_search_r4))) ++ wsX60 ++ wsX40 ++ wsX30 ++ wsX50 ++ wsX20)
def wsX6_sure_r1 : List Cond := [Cond.fieldLink RX6 31 "CodeHunt" "search" "LCodeHunt$Search;", Cond.constantLong RX6 169 (100), Cond.fieldLink RX6 49 "CodeHunt" "doubt" "I", Cond.methodLink RX6 156 yX6_searchFor, Cond.instanceMethod yX6_searchFor, Cond.selects RX6 yX6_searchFor yX6_searchFor, Cond.initialized RX6, Cond.code yX6_searchFor cX6_searchFor 9 (some .int), Cond.fieldLink RX6 11 "CodeHunt" "rows" "[LCodeHunt$Row;", Cond.fieldLink RX6 24 "CodeHunt" "window" "LCodeHunt$Window;", Cond.methodLink RX6 58 yX6_isRow, Cond.static yX6_isRow, Cond.code yX6_isRow cX6_isRow 1 (some .boolean), Cond.methodLink RX6 136 yX6_isPlace, Cond.static yX6_isPlace, Cond.code yX6_isPlace cX6_isPlace 1 (some .boolean), Cond.methodLink RX6 116 yX3_isNone, Cond.instanceMethod yX3_isNone, Cond.selects RX3 yX3_isNone yX3_isNone, Cond.initialized RX3, Cond.code yX3_isNone cX3_isNone 1 (some .boolean), Cond.fieldLink RX3 15 "CodeHunt$Row" "size" "I", Cond.methodLink RX6 142 yX6_listen, Cond.instanceMethod yX6_listen]
def wsX6_sure_r2 : List Cond := [Cond.selects RX6 yX6_listen yX6_listen, Cond.code yX6_listen cX6_listen 4 none, Cond.fieldLink RX6 17 "CodeHunt" "reels" "[LCodeHunt$Reel;", Cond.methodLink RX6 238 yX2_itemOrZero, Cond.instanceMethod yX2_itemOrZero, Cond.selects RX2 yX2_itemOrZero yX2_itemOrZero, Cond.initialized RX2, Cond.code yX2_itemOrZero cX2_itemOrZero 2 (some .int), Cond.fieldLink RX2 9 "CodeHunt$Reel" "items" "[I", Cond.methodLink RX2 35 yX2_hasItem, Cond.instanceMethod yX2_hasItem, Cond.selects RX2 yX2_hasItem yX2_hasItem, Cond.code yX2_hasItem cX2_hasItem 2 (some .boolean), Cond.fieldLink RX2 15 "CodeHunt$Reel" "lost" "Z", Cond.fieldLink RX2 23 "CodeHunt$Reel" "size" "I", Cond.methodLink RX6 282 yX6_quietened, Cond.static yX6_quietened, Cond.code yX6_quietened cX6_quietened 1 (some .int), Cond.methodLink RX6 288 yX4_begin, Cond.instanceMethod yX4_begin, Cond.selects RX4 yX4_begin yX4_begin, Cond.initialized RX4, Cond.code yX4_begin cX4_begin 1 none, Cond.constantLong RX4 7 (-1)]
def wsX6_sure_r3 : List Cond := [Cond.fieldLink RX4 9 "CodeHunt$Search" "greatest" "J", Cond.fieldLink RX4 15 "CodeHunt$Search" "next" "J", Cond.methodLink RX6 146 yX5_turnBack, Cond.instanceMethod yX5_turnBack, Cond.selects RX5 yX5_turnBack yX5_turnBack, Cond.initialized RX5, Cond.code yX5_turnBack cX5_turnBack 7 none, Cond.fieldLink RX5 24 "CodeHunt$Window" "size" "I", Cond.fieldLink RX5 15 "CodeHunt$Window" "y" "[I", Cond.fieldLink RX5 9 "CodeHunt$Window" "x" "[I", Cond.fieldLink RX5 18 "CodeHunt$Window" "turnedX" "[I", Cond.fieldLink RX5 21 "CodeHunt$Window" "turnedY" "[I", Cond.methodLink RX6 123 yX3_sumOver, Cond.instanceMethod yX3_sumOver, Cond.selects RX3 yX3_sumOver yX3_sumOver, Cond.code yX3_sumOver cX3_sumOver 6 (some .int), Cond.fieldLink RX3 9 "CodeHunt$Row" "signs" "[I", Cond.methodLink RX3 19 yJ9_floorMod_7cf53, Cond.static yJ9_floorMod_7cf53, Cond.initialized RJ9, Cond.code yJ9_floorMod_7cf53 cJ9_floorMod_7cf53 3 (some .int), Cond.methodLink RX6 291 yX4_weigh, Cond.instanceMethod yX4_weigh, Cond.selects RX4 yX4_weigh yX4_weigh]
def wsX6_sure_r4 : List Cond := [Cond.code yX4_weigh cX4_weigh 5 none, Cond.fieldLink RX4 18 "CodeHunt$Search" "tone" "I", Cond.fieldLink RX4 22 "CodeHunt$Search" "shift" "I"]
def wsX6_sure : List Cond := .code yX6_sure cX6_sure 4 (some .int) :: ((wsX6_sure_r1 ++ (wsX6_sure_r2 ++ (wsX6_sure_r3 ++ wsX6_sure_r4))) ++ wsX60 ++ wsX40 ++ wsX30 ++ wsX50 ++ wsX20)
def wsX6_power_r1 : List Cond := [Cond.fieldLink RX6 31 "CodeHunt" "search" "LCodeHunt$Search;", Cond.constantLong RX6 176 (-9223372036854775808), Cond.methodLink RX6 156 yX6_searchFor, Cond.instanceMethod yX6_searchFor, Cond.selects RX6 yX6_searchFor yX6_searchFor, Cond.initialized RX6, Cond.code yX6_searchFor cX6_searchFor 9 (some .int), Cond.fieldLink RX6 11 "CodeHunt" "rows" "[LCodeHunt$Row;", Cond.fieldLink RX6 24 "CodeHunt" "window" "LCodeHunt$Window;", Cond.methodLink RX6 58 yX6_isRow, Cond.static yX6_isRow, Cond.code yX6_isRow cX6_isRow 1 (some .boolean), Cond.methodLink RX6 136 yX6_isPlace, Cond.static yX6_isPlace, Cond.code yX6_isPlace cX6_isPlace 1 (some .boolean), Cond.methodLink RX6 116 yX3_isNone, Cond.instanceMethod yX3_isNone, Cond.selects RX3 yX3_isNone yX3_isNone, Cond.initialized RX3, Cond.code yX3_isNone cX3_isNone 1 (some .boolean), Cond.fieldLink RX3 15 "CodeHunt$Row" "size" "I", Cond.methodLink RX6 142 yX6_listen, Cond.instanceMethod yX6_listen, Cond.selects RX6 yX6_listen yX6_listen]
def wsX6_power_r2 : List Cond := [Cond.code yX6_listen cX6_listen 4 none, Cond.fieldLink RX6 17 "CodeHunt" "reels" "[LCodeHunt$Reel;", Cond.methodLink RX6 238 yX2_itemOrZero, Cond.instanceMethod yX2_itemOrZero, Cond.selects RX2 yX2_itemOrZero yX2_itemOrZero, Cond.initialized RX2, Cond.code yX2_itemOrZero cX2_itemOrZero 2 (some .int), Cond.fieldLink RX2 9 "CodeHunt$Reel" "items" "[I", Cond.methodLink RX2 35 yX2_hasItem, Cond.instanceMethod yX2_hasItem, Cond.selects RX2 yX2_hasItem yX2_hasItem, Cond.code yX2_hasItem cX2_hasItem 2 (some .boolean), Cond.fieldLink RX2 15 "CodeHunt$Reel" "lost" "Z", Cond.fieldLink RX2 23 "CodeHunt$Reel" "size" "I", Cond.methodLink RX6 282 yX6_quietened, Cond.static yX6_quietened, Cond.code yX6_quietened cX6_quietened 1 (some .int), Cond.methodLink RX6 288 yX4_begin, Cond.instanceMethod yX4_begin, Cond.selects RX4 yX4_begin yX4_begin, Cond.initialized RX4, Cond.code yX4_begin cX4_begin 1 none, Cond.constantLong RX4 7 (-1), Cond.fieldLink RX4 9 "CodeHunt$Search" "greatest" "J"]
def wsX6_power_r3 : List Cond := [Cond.fieldLink RX4 15 "CodeHunt$Search" "next" "J", Cond.methodLink RX6 146 yX5_turnBack, Cond.instanceMethod yX5_turnBack, Cond.selects RX5 yX5_turnBack yX5_turnBack, Cond.initialized RX5, Cond.code yX5_turnBack cX5_turnBack 7 none, Cond.fieldLink RX5 24 "CodeHunt$Window" "size" "I", Cond.fieldLink RX5 15 "CodeHunt$Window" "y" "[I", Cond.fieldLink RX5 9 "CodeHunt$Window" "x" "[I", Cond.fieldLink RX5 18 "CodeHunt$Window" "turnedX" "[I", Cond.fieldLink RX5 21 "CodeHunt$Window" "turnedY" "[I", Cond.methodLink RX6 123 yX3_sumOver, Cond.instanceMethod yX3_sumOver, Cond.selects RX3 yX3_sumOver yX3_sumOver, Cond.code yX3_sumOver cX3_sumOver 6 (some .int), Cond.fieldLink RX3 9 "CodeHunt$Row" "signs" "[I", Cond.methodLink RX3 19 yJ9_floorMod_7cf53, Cond.static yJ9_floorMod_7cf53, Cond.initialized RJ9, Cond.code yJ9_floorMod_7cf53 cJ9_floorMod_7cf53 3 (some .int), Cond.methodLink RX6 291 yX4_weigh, Cond.instanceMethod yX4_weigh, Cond.selects RX4 yX4_weigh yX4_weigh, Cond.code yX4_weigh cX4_weigh 5 none]
def wsX6_power_r4 : List Cond := [Cond.fieldLink RX4 18 "CodeHunt$Search" "tone" "I", Cond.fieldLink RX4 22 "CodeHunt$Search" "shift" "I"]
def wsX6_power : List Cond := .code yX6_power cX6_power 4 (some .long) :: ((wsX6_power_r1 ++ (wsX6_power_r2 ++ (wsX6_power_r3 ++ wsX6_power_r4))) ++ wsX60 ++ wsX40 ++ wsX30 ++ wsX50 ++ wsX20)
def wsX6_doubt : List Cond := .code yX6_doubt cX6_doubt 3 (some .int) :: ([.fieldLink RX6 49 "CodeHunt" "doubt" "I"] ++ wsX60)
def wsX6_isSizeOfAnyRow : List Cond := .code yX6_isSizeOfAnyRow cX6_isSizeOfAnyRow 3 (some .boolean) :: ([.fieldLink RX6 11 "CodeHunt" "rows" "[LCodeHunt$Row;"] ++ wsX60 ++ wsX30)
def wsJ9_floorDiv_7cf53 : List Cond := .code yJ9_floorDiv_7cf53 cJ9_floorDiv_7cf53 3 (some .int) :: ([])
def wsX6_roundedRatio : List Cond := .code yX6_roundedRatio cX6_roundedRatio 2 (some .int) :: ([.methodLink RX6 304 yJ9_floorDiv_7cf53, .static yJ9_floorDiv_7cf53, .initialized RJ9, .code yJ9_floorDiv_7cf53 cJ9_floorDiv_7cf53 3 (some .int)])
def wsX6_takeOffLoudest_r1 : List Cond := [Cond.fieldLink RX6 11 "CodeHunt" "rows" "[LCodeHunt$Row;", Cond.fieldLink RX6 24 "CodeHunt" "window" "LCodeHunt$Window;", Cond.methodLink RX6 127 Lib.Math.abs.name, Cond.static Lib.Math.abs.name, Cond.initialized "java/lang/Math", Cond.code Lib.Math.abs.name Lib.Math.abs.code 1 (some .int), Cond.fieldLink RX6 38 "CodeHunt" "peeling" "LCodeHunt$Peeling;", Cond.methodLink RX6 123 yX3_sumOver, Cond.instanceMethod yX3_sumOver, Cond.selects RX3 yX3_sumOver yX3_sumOver, Cond.initialized RX3, Cond.code yX3_sumOver cX3_sumOver 6 (some .int), Cond.fieldLink RX3 15 "CodeHunt$Row" "size" "I", Cond.fieldLink RX3 9 "CodeHunt$Row" "signs" "[I", Cond.methodLink RX3 19 yJ9_floorMod_7cf53, Cond.static yJ9_floorMod_7cf53, Cond.initialized RJ9, Cond.code yJ9_floorMod_7cf53 cJ9_floorMod_7cf53 3 (some .int), Cond.methodLink RX6 295 yX6_roundedRatio, Cond.static yX6_roundedRatio, Cond.initialized RX6, Cond.code yX6_roundedRatio cX6_roundedRatio 2 (some .int), Cond.methodLink RX6 304 yJ9_floorDiv_7cf53, Cond.static yJ9_floorDiv_7cf53]
def wsX6_takeOffLoudest_r2 : List Cond := [Cond.code yJ9_floorDiv_7cf53 cJ9_floorDiv_7cf53 3 (some .int), Cond.methodLink RX6 298 yX3_takeOff, Cond.instanceMethod yX3_takeOff, Cond.selects RX3 yX3_takeOff yX3_takeOff, Cond.code yX3_takeOff cX3_takeOff 5 none, Cond.methodLink RX3 32 yX3_signAt, Cond.instanceMethod yX3_signAt, Cond.selects RX3 yX3_signAt yX3_signAt, Cond.code yX3_signAt cX3_signAt 2 (some .int), Cond.methodLink RX6 302 yX1_keep, Cond.instanceMethod yX1_keep, Cond.selects RX1 yX1_keep yX1_keep, Cond.initialized RX1, Cond.code yX1_keep cX1_keep 4 none, Cond.fieldLink RX1 21 "CodeHunt$Peeling" "times" "I", Cond.fieldLink RX1 9 "CodeHunt$Peeling" "rowOf" "[I", Cond.fieldLink RX1 15 "CodeHunt$Peeling" "shiftOf" "[I", Cond.fieldLink RX1 18 "CodeHunt$Peeling" "strengthOf" "[I"]
def wsX6_takeOffLoudest : List Cond := .code yX6_takeOffLoudest cX6_takeOffLoudest 8 (some .boolean) :: ((wsX6_takeOffLoudest_r1 ++ wsX6_takeOffLoudest_r2) ++ wsX60 ++ wsX30 ++ wsX50 ++ wsX10)
def wsX6_peel_r1 : List Cond := [Cond.fieldLink RX6 38 "CodeHunt" "peeling" "LCodeHunt$Peeling;", Cond.fieldLink RX6 24 "CodeHunt" "window" "LCodeHunt$Window;", Cond.methodLink RX6 136 yX6_isPlace, Cond.static yX6_isPlace, Cond.initialized RX6, Cond.code yX6_isPlace cX6_isPlace 1 (some .boolean), Cond.methodLink RX6 102 yX6_isSize, Cond.static yX6_isSize, Cond.code yX6_isSize cX6_isSize 1 (some .boolean), Cond.methodLink RX6 178 yX6_isSizeOfAnyRow, Cond.instanceMethod yX6_isSizeOfAnyRow, Cond.selects RX6 yX6_isSizeOfAnyRow yX6_isSizeOfAnyRow, Cond.code yX6_isSizeOfAnyRow cX6_isSizeOfAnyRow 3 (some .boolean), Cond.fieldLink RX6 11 "CodeHunt" "rows" "[LCodeHunt$Row;", Cond.methodLink RX6 142 yX6_listen, Cond.instanceMethod yX6_listen, Cond.selects RX6 yX6_listen yX6_listen, Cond.code yX6_listen cX6_listen 4 none, Cond.fieldLink RX6 17 "CodeHunt" "reels" "[LCodeHunt$Reel;", Cond.methodLink RX6 238 yX2_itemOrZero, Cond.instanceMethod yX2_itemOrZero, Cond.selects RX2 yX2_itemOrZero yX2_itemOrZero, Cond.initialized RX2, Cond.code yX2_itemOrZero cX2_itemOrZero 2 (some .int)]
def wsX6_peel_r2 : List Cond := [Cond.fieldLink RX2 9 "CodeHunt$Reel" "items" "[I", Cond.methodLink RX2 35 yX2_hasItem, Cond.instanceMethod yX2_hasItem, Cond.selects RX2 yX2_hasItem yX2_hasItem, Cond.code yX2_hasItem cX2_hasItem 2 (some .boolean), Cond.fieldLink RX2 15 "CodeHunt$Reel" "lost" "Z", Cond.fieldLink RX2 23 "CodeHunt$Reel" "size" "I", Cond.methodLink RX6 282 yX6_quietened, Cond.static yX6_quietened, Cond.code yX6_quietened cX6_quietened 1 (some .int), Cond.methodLink RX6 184 yX6_takeOffLoudest, Cond.instanceMethod yX6_takeOffLoudest, Cond.selects RX6 yX6_takeOffLoudest yX6_takeOffLoudest, Cond.code yX6_takeOffLoudest cX6_takeOffLoudest 8 (some .boolean), Cond.methodLink RX6 127 Lib.Math.abs.name, Cond.static Lib.Math.abs.name, Cond.initialized "java/lang/Math", Cond.code Lib.Math.abs.name Lib.Math.abs.code 1 (some .int), Cond.methodLink RX6 123 yX3_sumOver, Cond.instanceMethod yX3_sumOver, Cond.selects RX3 yX3_sumOver yX3_sumOver, Cond.initialized RX3, Cond.code yX3_sumOver cX3_sumOver 6 (some .int), Cond.fieldLink RX3 15 "CodeHunt$Row" "size" "I"]
def wsX6_peel_r3 : List Cond := [Cond.fieldLink RX3 9 "CodeHunt$Row" "signs" "[I", Cond.methodLink RX3 19 yJ9_floorMod_7cf53, Cond.static yJ9_floorMod_7cf53, Cond.initialized RJ9, Cond.code yJ9_floorMod_7cf53 cJ9_floorMod_7cf53 3 (some .int), Cond.methodLink RX6 295 yX6_roundedRatio, Cond.static yX6_roundedRatio, Cond.code yX6_roundedRatio cX6_roundedRatio 2 (some .int), Cond.methodLink RX6 304 yJ9_floorDiv_7cf53, Cond.static yJ9_floorDiv_7cf53, Cond.code yJ9_floorDiv_7cf53 cJ9_floorDiv_7cf53 3 (some .int), Cond.methodLink RX6 298 yX3_takeOff, Cond.instanceMethod yX3_takeOff, Cond.selects RX3 yX3_takeOff yX3_takeOff, Cond.code yX3_takeOff cX3_takeOff 5 none, Cond.methodLink RX3 32 yX3_signAt, Cond.instanceMethod yX3_signAt, Cond.selects RX3 yX3_signAt yX3_signAt, Cond.code yX3_signAt cX3_signAt 2 (some .int), Cond.methodLink RX6 302 yX1_keep, Cond.instanceMethod yX1_keep, Cond.selects RX1 yX1_keep yX1_keep, Cond.initialized RX1, Cond.code yX1_keep cX1_keep 4 none]
def wsX6_peel_r4 : List Cond := [Cond.fieldLink RX1 21 "CodeHunt$Peeling" "times" "I", Cond.fieldLink RX1 9 "CodeHunt$Peeling" "rowOf" "[I", Cond.fieldLink RX1 15 "CodeHunt$Peeling" "shiftOf" "[I", Cond.fieldLink RX1 18 "CodeHunt$Peeling" "strengthOf" "[I", Cond.methodLink RX6 187 yX5_squaresOfX, Cond.instanceMethod yX5_squaresOfX, Cond.selects RX5 yX5_squaresOfX yX5_squaresOfX, Cond.initialized RX5, Cond.code yX5_squaresOfX cX5_squaresOfX 4 (some .long), Cond.fieldLink RX5 24 "CodeHunt$Window" "size" "I", Cond.fieldLink RX5 9 "CodeHunt$Window" "x" "[I"]
def wsX6_peel : List Cond := .code yX6_peel cX6_peel 4 (some .int) :: ((wsX6_peel_r1 ++ (wsX6_peel_r2 ++ (wsX6_peel_r3 ++ wsX6_peel_r4))) ++ wsX60 ++ wsX10 ++ wsX30 ++ wsX50 ++ wsX20)
def wsX6_peeled : List Cond := .code yX6_peeled cX6_peeled 3 (some .int) :: ([.fieldLink RX6 38 "CodeHunt" "peeling" "LCodeHunt$Peeling;", .constant RX6 194 (-1000000)] ++ wsX60 ++ wsX10)
def wsX6_noise : List Cond := .code yX6_noise cX6_noise 1 (some .long) :: ([.fieldLink RX6 38 "CodeHunt" "peeling" "LCodeHunt$Peeling;"] ++ wsX60 ++ wsX10)
def wsX6_loudestNear : List Cond := .code yX6_loudestNear cX6_loudestNear 7 (some .int) :: ([.fieldLink RX6 24 "CodeHunt" "window" "LCodeHunt$Window;", .methodLink RX6 127 Lib.Math.abs.name, .static Lib.Math.abs.name, .initialized "java/lang/Math", .code Lib.Math.abs.name Lib.Math.abs.code 1 (some .int), .methodLink RX6 123 yX3_sumOver, .instanceMethod yX3_sumOver, .selects RX3 yX3_sumOver yX3_sumOver, .initialized RX3, .code yX3_sumOver cX3_sumOver 6 (some .int), .fieldLink RX3 15 "CodeHunt$Row" "size" "I", .fieldLink RX3 9 "CodeHunt$Row" "signs" "[I", .methodLink RX3 19 yJ9_floorMod_7cf53, .static yJ9_floorMod_7cf53, .initialized RJ9, .code yJ9_floorMod_7cf53 cJ9_floorMod_7cf53 3 (some .int)] ++ wsX30 ++ wsX60 ++ wsX50)
def wsX6_follow_r1 : List Cond := [Cond.fieldLink RX6 11 "CodeHunt" "rows" "[LCodeHunt$Row;", Cond.methodLink RX6 58 yX6_isRow, Cond.static yX6_isRow, Cond.initialized RX6, Cond.code yX6_isRow cX6_isRow 1 (some .boolean), Cond.methodLink RX6 136 yX6_isPlace, Cond.static yX6_isPlace, Cond.code yX6_isPlace cX6_isPlace 1 (some .boolean), Cond.methodLink RX6 80 yX6_isShift, Cond.static yX6_isShift, Cond.code yX6_isShift cX6_isShift 1 (some .boolean), Cond.methodLink RX6 142 yX6_listen, Cond.instanceMethod yX6_listen, Cond.selects RX6 yX6_listen yX6_listen, Cond.code yX6_listen cX6_listen 4 none, Cond.fieldLink RX6 24 "CodeHunt" "window" "LCodeHunt$Window;", Cond.fieldLink RX6 17 "CodeHunt" "reels" "[LCodeHunt$Reel;", Cond.methodLink RX6 238 yX2_itemOrZero, Cond.instanceMethod yX2_itemOrZero, Cond.selects RX2 yX2_itemOrZero yX2_itemOrZero, Cond.initialized RX2, Cond.code yX2_itemOrZero cX2_itemOrZero 2 (some .int), Cond.fieldLink RX2 9 "CodeHunt$Reel" "items" "[I", Cond.methodLink RX2 35 yX2_hasItem]
def wsX6_follow_r2 : List Cond := [Cond.instanceMethod yX2_hasItem, Cond.selects RX2 yX2_hasItem yX2_hasItem, Cond.code yX2_hasItem cX2_hasItem 2 (some .boolean), Cond.fieldLink RX2 15 "CodeHunt$Reel" "lost" "Z", Cond.fieldLink RX2 23 "CodeHunt$Reel" "size" "I", Cond.methodLink RX6 282 yX6_quietened, Cond.static yX6_quietened, Cond.code yX6_quietened cX6_quietened 1 (some .int), Cond.methodLink RX6 204 yX6_loudestNear, Cond.instanceMethod yX6_loudestNear, Cond.selects RX6 yX6_loudestNear yX6_loudestNear, Cond.code yX6_loudestNear cX6_loudestNear 7 (some .int), Cond.methodLink RX6 127 Lib.Math.abs.name, Cond.static Lib.Math.abs.name, Cond.initialized "java/lang/Math", Cond.code Lib.Math.abs.name Lib.Math.abs.code 1 (some .int), Cond.methodLink RX6 123 yX3_sumOver, Cond.instanceMethod yX3_sumOver, Cond.selects RX3 yX3_sumOver yX3_sumOver, Cond.initialized RX3, Cond.code yX3_sumOver cX3_sumOver 6 (some .int), Cond.fieldLink RX3 15 "CodeHunt$Row" "size" "I", Cond.fieldLink RX3 9 "CodeHunt$Row" "signs" "[I", Cond.methodLink RX3 19 yJ9_floorMod_7cf53]
def wsX6_follow_r3 : List Cond := [Cond.static yJ9_floorMod_7cf53, Cond.initialized RJ9, Cond.code yJ9_floorMod_7cf53 cJ9_floorMod_7cf53 3 (some .int)]
def wsX6_follow : List Cond := .code yX6_follow cX6_follow 8 (some .int) :: ((wsX6_follow_r1 ++ (wsX6_follow_r2 ++ wsX6_follow_r3)) ++ wsX60 ++ wsX30 ++ wsX50 ++ wsX20)
def wsX6_length : List Cond := .code yX6_length cX6_length 3 (some .int) :: ([.fieldLink RX6 45 "CodeHunt" "lengths" "LCodeHunt$Lengths;", .methodLink RX6 208 yX0_haveDivisorWith, .instanceMethod yX0_haveDivisorWith, .selects RX0 yX0_haveDivisorWith yX0_haveDivisorWith, .initialized RX0, .code yX0_haveDivisorWith cX0_haveDivisorWith 4 (some .boolean), .fieldLink RX0 18 "CodeHunt$Lengths" "size" "I", .fieldLink RX0 9 "CodeHunt$Lengths" "lengthOf" "[I", .methodLink RX6 212 yX0_keep, .instanceMethod yX0_keep, .selects RX0 yX0_keep yX0_keep, .code yX0_keep cX0_keep 3 none, .fieldLink RX0 15 "CodeHunt$Lengths" "shiftOf" "[I"] ++ wsX60 ++ wsX00)
def wsX6_reset : List Cond := .code yX6_reset cX6_reset 2 (some .int) :: ([.fieldLink RX6 45 "CodeHunt" "lengths" "LCodeHunt$Lengths;"] ++ wsX60 ++ wsX00)
def wsX6_range : List Cond := .code yX6_range cX6_range 1 (some .long) :: ([.fieldLink RX6 45 "CodeHunt" "lengths" "LCodeHunt$Lengths;", .methodLink RX6 215 yX0_leastFitting, .instanceMethod yX0_leastFitting, .selects RX0 yX0_leastFitting yX0_leastFitting, .initialized RX0, .code yX0_leastFitting cX0_leastFitting 7 (some .long), .fieldLink RX0 18 "CodeHunt$Lengths" "size" "I", .fieldLink RX0 9 "CodeHunt$Lengths" "lengthOf" "[I", .methodLink RX0 22 yX0_fits, .instanceMethod yX0_fits, .selects RX0 yX0_fits yX0_fits, .code yX0_fits cX0_fits 4 (some .boolean), .fieldLink RX0 15 "CodeHunt$Lengths" "shiftOf" "[I"] ++ wsX60 ++ wsX00)
def wsX6_mend : List Cond := .code yX6_mend cX6_mend 6 (some .int) :: ([.fieldLink RX6 45 "CodeHunt" "lengths" "LCodeHunt$Lengths;", .methodLink RX6 218 yX0_howManyFit, .instanceMethod yX0_howManyFit, .selects RX0 yX0_howManyFit yX0_howManyFit, .initialized RX0, .code yX0_howManyFit cX0_howManyFit 4 (some .int), .fieldLink RX0 18 "CodeHunt$Lengths" "size" "I", .methodLink RX0 22 yX0_fits, .instanceMethod yX0_fits, .selects RX0 yX0_fits yX0_fits, .code yX0_fits cX0_fits 4 (some .boolean), .fieldLink RX0 9 "CodeHunt$Lengths" "lengthOf" "[I", .fieldLink RX0 15 "CodeHunt$Lengths" "shiftOf" "[I"] ++ wsX60 ++ wsX00)
def wsX6_areHops : List Cond := .code yX6_areHops cX6_areHops 8 (some .boolean) :: ([.fieldLink RX6 270 "CodeHunt" "PRIMES" "[I"])
def wsX6_meetings : List Cond := .code yX6_meetings cX6_meetings 7 (some .int) :: ([])
def wsX6_hits : List Cond := .code yX6_hits cX6_hits 6 (some .int) :: ([.methodLink RX6 221 yX6_areHops, .static yX6_areHops, .initialized RX6, .code yX6_areHops cX6_areHops 8 (some .boolean), .fieldLink RX6 270 "CodeHunt" "PRIMES" "[I", .methodLink RX6 224 yX6_meetings, .static yX6_meetings, .code yX6_meetings cX6_meetings 7 (some .int)])
def wsX6_worst : List Cond := .code yX6_worst cX6_worst 7 (some .int) :: ([.methodLink RX6 132 Lib.Math.max.name, .static Lib.Math.max.name, .initialized "java/lang/Math", .code Lib.Math.max.name Lib.Math.max.code 2 (some .int), .methodLink RX6 221 yX6_areHops, .static yX6_areHops, .initialized RX6, .code yX6_areHops cX6_areHops 8 (some .boolean), .fieldLink RX6 270 "CodeHunt" "PRIMES" "[I", .methodLink RX6 224 yX6_meetings, .static yX6_meetings, .code yX6_meetings cX6_meetings 7 (some .int)])
def wsX6_isForm : List Cond := .code yX6_isForm cX6_isForm 1 (some .boolean) :: ([])
def wsX6_reel_r1 : List Cond := [Cond.fieldLink RX6 17 "CodeHunt" "reels" "[LCodeHunt$Reel;", Cond.methodLink RX6 99 yX6_isReel, Cond.static yX6_isReel, Cond.initialized RX6, Cond.code yX6_isReel cX6_isReel 1 (some .boolean), Cond.methodLink RX6 228 yX6_isForm, Cond.static yX6_isForm, Cond.code yX6_isForm cX6_isForm 1 (some .boolean), Cond.methodLink RX6 109 yX6_found, Cond.instanceMethod yX6_found, Cond.selects RX6 yX6_found yX6_found, Cond.code yX6_found cX6_found 2 (some .int), Cond.fieldLink RX6 53 "CodeHunt" "finding" "I", Cond.methodLink RX6 231 yX2_renew, Cond.instanceMethod yX2_renew, Cond.selects RX2 yX2_renew yX2_renew, Cond.initialized RX2, Cond.code yX2_renew cX2_renew 4 none, Cond.fieldLink RX2 15 "CodeHunt$Reel" "lost" "Z", Cond.fieldLink RX2 19 "CodeHunt$Reel" "form" "I", Cond.methodLink RX2 26 Lib.Math.min.name, Cond.static Lib.Math.min.name, Cond.initialized "java/lang/Math", Cond.code Lib.Math.min.name Lib.Math.min.code 2 (some .int)]
def wsX6_reel_r2 : List Cond := [Cond.methodLink RX2 32 Lib.Math.max.name, Cond.static Lib.Math.max.name, Cond.code Lib.Math.max.name Lib.Math.max.code 2 (some .int), Cond.fieldLink RX2 23 "CodeHunt$Reel" "size" "I", Cond.fieldLink RX2 9 "CodeHunt$Reel" "items" "[I"]
def wsX6_reel : List Cond := .code yX6_reel cX6_reel 4 (some .int) :: ((wsX6_reel_r1 ++ wsX6_reel_r2) ++ wsX60 ++ wsX20)
def wsX6_lose : List Cond := .code yX6_lose cX6_lose 2 (some .int) :: ([.fieldLink RX6 17 "CodeHunt" "reels" "[LCodeHunt$Reel;", .methodLink RX6 99 yX6_isReel, .static yX6_isReel, .initialized RX6, .code yX6_isReel cX6_isReel 1 (some .boolean), .methodLink RX6 109 yX6_found, .instanceMethod yX6_found, .selects RX6 yX6_found yX6_found, .code yX6_found cX6_found 2 (some .int), .fieldLink RX6 53 "CodeHunt" "finding" "I"] ++ wsX60 ++ wsX20)
def wsX6_put_r1 : List Cond := [Cond.fieldLink RX6 17 "CodeHunt" "reels" "[LCodeHunt$Reel;", Cond.methodLink RX6 99 yX6_isReel, Cond.static yX6_isReel, Cond.initialized RX6, Cond.code yX6_isReel cX6_isReel 1 (some .boolean), Cond.methodLink RX6 228 yX6_isForm, Cond.static yX6_isForm, Cond.code yX6_isForm cX6_isForm 1 (some .boolean), Cond.methodLink RX6 234 yX2_troubleAt, Cond.instanceMethod yX2_troubleAt, Cond.selects RX2 yX2_troubleAt yX2_troubleAt, Cond.initialized RX2, Cond.code yX2_troubleAt cX2_troubleAt 3 (some .int), Cond.fieldLink RX2 15 "CodeHunt$Reel" "lost" "Z", Cond.fieldLink RX2 19 "CodeHunt$Reel" "form" "I", Cond.methodLink RX2 35 yX2_hasItem, Cond.instanceMethod yX2_hasItem, Cond.selects RX2 yX2_hasItem yX2_hasItem, Cond.code yX2_hasItem cX2_hasItem 2 (some .boolean), Cond.fieldLink RX2 23 "CodeHunt$Reel" "size" "I", Cond.methodLink RX6 109 yX6_found, Cond.instanceMethod yX6_found, Cond.selects RX6 yX6_found yX6_found, Cond.code yX6_found cX6_found 2 (some .int)]
def wsX6_put_r2 : List Cond := [Cond.fieldLink RX6 53 "CodeHunt" "finding" "I", Cond.methodLink RX6 237 yX2_keep, Cond.instanceMethod yX2_keep, Cond.selects RX2 yX2_keep yX2_keep, Cond.code yX2_keep cX2_keep 3 none, Cond.fieldLink RX2 9 "CodeHunt$Reel" "items" "[I", Cond.methodLink RX2 39 yX2_lowestBits, Cond.instanceMethod yX2_lowestBits, Cond.selects RX2 yX2_lowestBits yX2_lowestBits, Cond.code yX2_lowestBits cX2_lowestBits 2 (some .int)]
def wsX6_put : List Cond := .code yX6_put cX6_put 6 (some .int) :: ((wsX6_put_r1 ++ wsX6_put_r2) ++ wsX60 ++ wsX20)
def wsX6_get_r1 : List Cond := [Cond.constant RX6 141 (-2147483648), Cond.fieldLink RX6 17 "CodeHunt" "reels" "[LCodeHunt$Reel;", Cond.methodLink RX6 99 yX6_isReel, Cond.static yX6_isReel, Cond.initialized RX6, Cond.code yX6_isReel cX6_isReel 1 (some .boolean), Cond.methodLink RX6 228 yX6_isForm, Cond.static yX6_isForm, Cond.code yX6_isForm cX6_isForm 1 (some .boolean), Cond.methodLink RX6 234 yX2_troubleAt, Cond.instanceMethod yX2_troubleAt, Cond.selects RX2 yX2_troubleAt yX2_troubleAt, Cond.initialized RX2, Cond.code yX2_troubleAt cX2_troubleAt 3 (some .int), Cond.fieldLink RX2 15 "CodeHunt$Reel" "lost" "Z", Cond.fieldLink RX2 19 "CodeHunt$Reel" "form" "I", Cond.methodLink RX2 35 yX2_hasItem, Cond.instanceMethod yX2_hasItem, Cond.selects RX2 yX2_hasItem yX2_hasItem, Cond.code yX2_hasItem cX2_hasItem 2 (some .boolean), Cond.fieldLink RX2 23 "CodeHunt$Reel" "size" "I", Cond.methodLink RX6 109 yX6_found, Cond.instanceMethod yX6_found, Cond.selects RX6 yX6_found yX6_found]
def wsX6_get_r2 : List Cond := [Cond.code yX6_found cX6_found 2 (some .int), Cond.fieldLink RX6 53 "CodeHunt" "finding" "I", Cond.methodLink RX6 238 yX2_itemOrZero, Cond.instanceMethod yX2_itemOrZero, Cond.selects RX2 yX2_itemOrZero yX2_itemOrZero, Cond.code yX2_itemOrZero cX2_itemOrZero 2 (some .int), Cond.fieldLink RX2 9 "CodeHunt$Reel" "items" "[I"]
def wsX6_get : List Cond := .code yX6_get cX6_get 5 (some .int) :: ((wsX6_get_r1 ++ wsX6_get_r2) ++ wsX60 ++ wsX20)
def wsX6_copy : List Cond := .code yX6_copy cX6_copy 6 (some .int) :: ([.fieldLink RX6 17 "CodeHunt" "reels" "[LCodeHunt$Reel;", .methodLink RX6 247 arraycopyName, .native arraycopyName, .static arraycopyName, .initialized "java/lang/System", .methodLink RX6 99 yX6_isReel, .static yX6_isReel, .initialized RX6, .code yX6_isReel cX6_isReel 1 (some .boolean), .methodLink RX6 109 yX6_found, .instanceMethod yX6_found, .selects RX6 yX6_found yX6_found, .code yX6_found cX6_found 2 (some .int), .fieldLink RX6 53 "CodeHunt" "finding" "I", .methodLink RX6 244 yX2_hasSpan, .instanceMethod yX2_hasSpan, .selects RX2 yX2_hasSpan yX2_hasSpan, .initialized RX2, .code yX2_hasSpan cX2_hasSpan 3 (some .boolean), .fieldLink RX2 23 "CodeHunt$Reel" "size" "I"] ++ wsX60 ++ wsX20)
def wsX6_add_r1 : List Cond := [Cond.fieldLink RX6 17 "CodeHunt" "reels" "[LCodeHunt$Reel;", Cond.fieldLink RX6 11 "CodeHunt" "rows" "[LCodeHunt$Row;", Cond.methodLink RX6 253 Lib.Math.min.name, Cond.static Lib.Math.min.name, Cond.initialized "java/lang/Math", Cond.code Lib.Math.min.name Lib.Math.min.code 2 (some .int), Cond.methodLink RX6 58 yX6_isRow, Cond.static yX6_isRow, Cond.initialized RX6, Cond.code yX6_isRow cX6_isRow 1 (some .boolean), Cond.methodLink RX6 99 yX6_isReel, Cond.static yX6_isReel, Cond.code yX6_isReel cX6_isReel 1 (some .boolean), Cond.methodLink RX6 80 yX6_isShift, Cond.static yX6_isShift, Cond.code yX6_isShift cX6_isShift 1 (some .boolean), Cond.methodLink RX6 109 yX6_found, Cond.instanceMethod yX6_found, Cond.selects RX6 yX6_found yX6_found, Cond.code yX6_found cX6_found 2 (some .int), Cond.fieldLink RX6 53 "CodeHunt" "finding" "I", Cond.methodLink RX6 116 yX3_isNone, Cond.instanceMethod yX3_isNone, Cond.selects RX3 yX3_isNone yX3_isNone]
def wsX6_add_r2 : List Cond := [Cond.initialized RX3, Cond.code yX3_isNone cX3_isNone 1 (some .boolean), Cond.fieldLink RX3 15 "CodeHunt$Row" "size" "I", Cond.methodLink RX6 91 yX3_signAt, Cond.instanceMethod yX3_signAt, Cond.selects RX3 yX3_signAt yX3_signAt, Cond.code yX3_signAt cX3_signAt 2 (some .int), Cond.fieldLink RX3 9 "CodeHunt$Row" "signs" "[I", Cond.methodLink RX3 19 yJ9_floorMod_7cf53, Cond.static yJ9_floorMod_7cf53, Cond.initialized RJ9, Cond.code yJ9_floorMod_7cf53 cJ9_floorMod_7cf53 3 (some .int), Cond.methodLink RX6 238 yX2_itemOrZero, Cond.instanceMethod yX2_itemOrZero, Cond.selects RX2 yX2_itemOrZero yX2_itemOrZero, Cond.initialized RX2, Cond.code yX2_itemOrZero cX2_itemOrZero 2 (some .int), Cond.fieldLink RX2 9 "CodeHunt$Reel" "items" "[I", Cond.methodLink RX2 35 yX2_hasItem, Cond.instanceMethod yX2_hasItem, Cond.selects RX2 yX2_hasItem yX2_hasItem, Cond.code yX2_hasItem cX2_hasItem 2 (some .boolean), Cond.fieldLink RX2 15 "CodeHunt$Reel" "lost" "Z", Cond.fieldLink RX2 23 "CodeHunt$Reel" "size" "I"]
def wsX6_add_r3 : List Cond := [Cond.methodLink RX6 237 yX2_keep, Cond.instanceMethod yX2_keep, Cond.selects RX2 yX2_keep yX2_keep, Cond.code yX2_keep cX2_keep 3 none, Cond.methodLink RX2 39 yX2_lowestBits, Cond.instanceMethod yX2_lowestBits, Cond.selects RX2 yX2_lowestBits yX2_lowestBits, Cond.code yX2_lowestBits cX2_lowestBits 2 (some .int), Cond.fieldLink RX2 19 "CodeHunt$Reel" "form" "I"]
def wsX6_add : List Cond := .code yX6_add cX6_add 9 (some .int) :: ((wsX6_add_r1 ++ (wsX6_add_r2 ++ wsX6_add_r3)) ++ wsX60 ++ wsX20 ++ wsX30)
def wsX6_rowsThatAre : List Cond := .code yX6_rowsThatAre cX6_rowsThatAre 3 (some .int) :: ([.fieldLink RX6 11 "CodeHunt" "rows" "[LCodeHunt$Row;", .methodLink RX6 116 yX3_isNone, .instanceMethod yX3_isNone, .selects RX3 yX3_isNone yX3_isNone, .initialized RX3, .code yX3_isNone cX3_isNone 1 (some .boolean), .fieldLink RX3 15 "CodeHunt$Row" "size" "I"] ++ wsX60 ++ wsX30)
def wsX6_count : List Cond := .code yX6_count cX6_count 2 (some .int) :: ([.fieldLink RX6 45 "CodeHunt" "lengths" "LCodeHunt$Lengths;", .fieldLink RX6 49 "CodeHunt" "doubt" "I", .fieldLink RX6 53 "CodeHunt" "finding" "I", .fieldLink RX6 38 "CodeHunt" "peeling" "LCodeHunt$Peeling;", .methodLink RX6 256 yX6_rowsThatAre, .instanceMethod yX6_rowsThatAre, .selects RX6 yX6_rowsThatAre yX6_rowsThatAre, .initialized RX6, .code yX6_rowsThatAre cX6_rowsThatAre 3 (some .int), .fieldLink RX6 11 "CodeHunt" "rows" "[LCodeHunt$Row;", .methodLink RX6 116 yX3_isNone, .instanceMethod yX3_isNone, .selects RX3 yX3_isNone yX3_isNone, .initialized RX3, .code yX3_isNone cX3_isNone 1 (some .boolean), .fieldLink RX3 15 "CodeHunt$Row" "size" "I"] ++ wsX60 ++ wsX00 ++ wsX10 ++ wsX30)
def wsX6_digest_r1 : List Cond := [Cond.constantLong RX6 260 (17), Cond.fieldLink RX6 45 "CodeHunt" "lengths" "LCodeHunt$Lengths;", Cond.fieldLink RX6 49 "CodeHunt" "doubt" "I", Cond.fieldLink RX6 38 "CodeHunt" "peeling" "LCodeHunt$Peeling;", Cond.fieldLink RX6 11 "CodeHunt" "rows" "[LCodeHunt$Row;", Cond.methodLink RX6 256 yX6_rowsThatAre, Cond.instanceMethod yX6_rowsThatAre, Cond.selects RX6 yX6_rowsThatAre yX6_rowsThatAre, Cond.initialized RX6, Cond.code yX6_rowsThatAre cX6_rowsThatAre 3 (some .int), Cond.methodLink RX6 116 yX3_isNone, Cond.instanceMethod yX3_isNone, Cond.selects RX3 yX3_isNone yX3_isNone, Cond.initialized RX3, Cond.code yX3_isNone cX3_isNone 1 (some .boolean), Cond.fieldLink RX3 15 "CodeHunt$Row" "size" "I", Cond.methodLink RX6 262 yX6_mixed, Cond.static yX6_mixed, Cond.code yX6_mixed cX6_mixed 4 (some .long), Cond.constantLong RX6 279 (31), Cond.methodLink RX6 266 yX3_mixedInto, Cond.instanceMethod yX3_mixedInto, Cond.selects RX3 yX3_mixedInto yX3_mixedInto, Cond.code yX3_mixedInto cX3_mixedInto 6 (some .long)]
def wsX6_digest_r2 : List Cond := [Cond.fieldLink RX3 9 "CodeHunt$Row" "signs" "[I", Cond.methodLink RX6 215 yX0_leastFitting, Cond.instanceMethod yX0_leastFitting, Cond.selects RX0 yX0_leastFitting yX0_leastFitting, Cond.initialized RX0, Cond.code yX0_leastFitting cX0_leastFitting 7 (some .long), Cond.fieldLink RX0 18 "CodeHunt$Lengths" "size" "I", Cond.fieldLink RX0 9 "CodeHunt$Lengths" "lengthOf" "[I", Cond.methodLink RX0 22 yX0_fits, Cond.instanceMethod yX0_fits, Cond.selects RX0 yX0_fits yX0_fits, Cond.code yX0_fits cX0_fits 4 (some .boolean), Cond.fieldLink RX0 15 "CodeHunt$Lengths" "shiftOf" "[I"]
def wsX6_digest : List Cond := .code yX6_digest cX6_digest 4 (some .long) :: ((wsX6_digest_r1 ++ wsX6_digest_r2) ++ wsX60 ++ wsX00 ++ wsX10 ++ wsX30)
def wsX7_init : List Cond := .code yX7_init cX7_init 1 none :: ([.methodLink RX7 1 objectInit, .instanceMethod objectInit, .code objectInit ⟨#[0xb1]⟩ 1 none, .arrayClass .int, .fieldLink RX7 7 "CodeHuntModel" "sizesOf" "[I", .fieldLink RX7 13 "CodeHuntModel" "signs" "[I", .fieldLink RX7 16 "CodeHuntModel" "made" "[I", .fieldLink RX7 19 "CodeHuntModel" "doubt" "I", .fieldLink RX7 23 "CodeHuntModel" "peeled" "[I", .fieldLink RX7 26 "CodeHuntModel" "left" "[I", .fieldLink RX7 29 "CodeHuntModel" "lengthOf" "[I", .fieldLink RX7 32 "CodeHuntModel" "shiftOf" "[I", .arrayClass .boolean, .fieldLink RX7 35 "CodeHuntModel" "isThere" "[Z", .fieldLink RX7 39 "CodeHuntModel" "forms" "[I", .fieldLink RX7 42 "CodeHuntModel" "sizes" "[I", .fieldLink RX7 45 "CodeHuntModel" "items" "[I", .fieldLink RX7 48 "CodeHuntModel" "moved" "[I"] ++ wsX70)
def wsX7_in : List Cond := .code yX7_in cX7_in 3 (some .boolean) :: ([])
def wsX7_isRow : List Cond := .code yX7_isRow cX7_isRow 1 (some .boolean) :: ([.methodLink RX7 51 yX7_in, .static yX7_in, .initialized RX7, .code yX7_in cX7_in 3 (some .boolean)])
def wsX7_isShift : List Cond := .code yX7_isShift cX7_isShift 1 (some .boolean) :: ([.methodLink RX7 51 yX7_in, .static yX7_in, .initialized RX7, .code yX7_in cX7_in 3 (some .boolean)])
def wsX7_signOf : List Cond := .code yX7_signOf cX7_signOf 3 (some .int) :: ([.fieldLink RX7 13 "CodeHuntModel" "signs" "[I", .fieldLink RX7 7 "CodeHuntModel" "sizesOf" "[I"] ++ wsX70)
def wsX7_keeps : List Cond := .code yX7_keeps cX7_keeps 4 none :: ([.fieldLink RX7 7 "CodeHuntModel" "sizesOf" "[I", .fieldLink RX7 13 "CodeHuntModel" "signs" "[I", .fieldLink RX7 16 "CodeHuntModel" "made" "[I"] ++ wsX70)
def wsX7_isRegister : List Cond := .code yX7_isRegister cX7_isRegister 3 (some .boolean) :: ([.methodLink RX7 51 yX7_in, .static yX7_in, .initialized RX7, .code yX7_in cX7_in 3 (some .boolean)])
def wsX7_next : List Cond := .code yX7_next cX7_next 5 (some .int) :: ([])
def wsX7_make : List Cond := .code yX7_make cX7_make 8 (some .int) :: ([.fieldLink RX7 16 "CodeHuntModel" "made" "[I", .methodLink RX7 55 yX7_isRow, .static yX7_isRow, .initialized RX7, .code yX7_isRow cX7_isRow 1 (some .boolean), .methodLink RX7 51 yX7_in, .static yX7_in, .code yX7_in cX7_in 3 (some .boolean), .methodLink RX7 59 yX7_isRegister, .static yX7_isRegister, .code yX7_isRegister cX7_isRegister 3 (some .boolean), .methodLink RX7 62 yX7_next, .static yX7_next, .code yX7_next cX7_next 5 (some .int), .methodLink RX7 66 yX7_keeps, .instanceMethod yX7_keeps, .selects RX7 yX7_keeps yX7_keeps, .code yX7_keeps cX7_keeps 4 none, .fieldLink RX7 7 "CodeHuntModel" "sizesOf" "[I", .fieldLink RX7 13 "CodeHuntModel" "signs" "[I"] ++ wsX70)
def wsX7_periodOf : List Cond := .code yX7_periodOf cX7_periodOf 5 (some .int) :: ([.methodLink RX7 62 yX7_next, .static yX7_next, .initialized RX7, .code yX7_next cX7_next 5 (some .int)])
def wsX7_period : List Cond := .code yX7_period cX7_period 4 (some .int) :: ([.methodLink RX7 59 yX7_isRegister, .static yX7_isRegister, .initialized RX7, .code yX7_isRegister cX7_isRegister 3 (some .boolean), .methodLink RX7 51 yX7_in, .static yX7_in, .code yX7_in cX7_in 3 (some .boolean), .methodLink RX7 70 yX7_periodOf, .static yX7_periodOf, .code yX7_periodOf cX7_periodOf 5 (some .int), .methodLink RX7 62 yX7_next, .static yX7_next, .code yX7_next cX7_next 5 (some .int)])
def wsX7_full : List Cond := .code yX7_full cX7_full 4 (some .int) :: ([.methodLink RX7 51 yX7_in, .static yX7_in, .initialized RX7, .code yX7_in cX7_in 3 (some .boolean), .methodLink RX7 70 yX7_periodOf, .static yX7_periodOf, .code yX7_periodOf cX7_periodOf 5 (some .int), .methodLink RX7 62 yX7_next, .static yX7_next, .code yX7_next cX7_next 5 (some .int)])
def wsX7_arePair : List Cond := .code yX7_arePair cX7_arePair 3 (some .boolean) :: ([.fieldLink RX7 7 "CodeHuntModel" "sizesOf" "[I"] ++ wsX70)
def wsX7_join_r1 : List Cond := [Cond.fieldLink RX7 7 "CodeHuntModel" "sizesOf" "[I", Cond.fieldLink RX7 16 "CodeHuntModel" "made" "[I", Cond.methodLink RX7 55 yX7_isRow, Cond.static yX7_isRow, Cond.initialized RX7, Cond.code yX7_isRow cX7_isRow 1 (some .boolean), Cond.methodLink RX7 51 yX7_in, Cond.static yX7_in, Cond.code yX7_in cX7_in 3 (some .boolean), Cond.methodLink RX7 73 yX7_isShift, Cond.static yX7_isShift, Cond.code yX7_isShift cX7_isShift 1 (some .boolean), Cond.methodLink RX7 76 yX7_arePair, Cond.instanceMethod yX7_arePair, Cond.selects RX7 yX7_arePair yX7_arePair, Cond.code yX7_arePair cX7_arePair 3 (some .boolean), Cond.methodLink RX7 80 yX7_signOf, Cond.instanceMethod yX7_signOf, Cond.selects RX7 yX7_signOf yX7_signOf, Cond.code yX7_signOf cX7_signOf 3 (some .int), Cond.fieldLink RX7 13 "CodeHuntModel" "signs" "[I", Cond.methodLink RX7 66 yX7_keeps, Cond.instanceMethod yX7_keeps, Cond.selects RX7 yX7_keeps yX7_keeps]
def wsX7_join_r2 : List Cond := [Cond.code yX7_keeps cX7_keeps 4 none]
def wsX7_join : List Cond := .code yX7_join cX7_join 7 (some .int) :: ((wsX7_join_r1 ++ wsX7_join_r2) ++ wsX70)
def wsX7_isReel : List Cond := .code yX7_isReel cX7_isReel 1 (some .boolean) :: ([.methodLink RX7 51 yX7_in, .static yX7_in, .initialized RX7, .code yX7_in cX7_in 3 (some .boolean)])
def wsX7_meets : List Cond := .code yX7_meets cX7_meets 2 (some .int) :: ([.fieldLink RX7 149 "CodeHuntModel" "finding" "I"] ++ wsX70)
def wsX7_load_r1 : List Cond := [Cond.fieldLink RX7 35 "CodeHuntModel" "isThere" "[Z", Cond.fieldLink RX7 42 "CodeHuntModel" "sizes" "[I", Cond.fieldLink RX7 16 "CodeHuntModel" "made" "[I", Cond.fieldLink RX7 45 "CodeHuntModel" "items" "[I", Cond.methodLink RX7 55 yX7_isRow, Cond.static yX7_isRow, Cond.initialized RX7, Cond.code yX7_isRow cX7_isRow 1 (some .boolean), Cond.methodLink RX7 51 yX7_in, Cond.static yX7_in, Cond.code yX7_in cX7_in 3 (some .boolean), Cond.methodLink RX7 84 yX7_isReel, Cond.static yX7_isReel, Cond.code yX7_isReel cX7_isReel 1 (some .boolean), Cond.methodLink RX7 87 yX7_meets, Cond.instanceMethod yX7_meets, Cond.selects RX7 yX7_meets yX7_meets, Cond.code yX7_meets cX7_meets 2 (some .int), Cond.fieldLink RX7 149 "CodeHuntModel" "finding" "I", Cond.methodLink RX7 66 yX7_keeps, Cond.instanceMethod yX7_keeps, Cond.selects RX7 yX7_keeps yX7_keeps, Cond.code yX7_keeps cX7_keeps 4 none, Cond.fieldLink RX7 7 "CodeHuntModel" "sizesOf" "[I"]
def wsX7_load_r2 : List Cond := [Cond.fieldLink RX7 13 "CodeHuntModel" "signs" "[I"]
def wsX7_load : List Cond := .code yX7_load cX7_load 5 (some .int) :: ((wsX7_load_r1 ++ wsX7_load_r2) ++ wsX70)
def wsX7_drop : List Cond := .code yX7_drop cX7_drop 3 (some .int) :: ([.fieldLink RX7 7 "CodeHuntModel" "sizesOf" "[I", .methodLink RX7 55 yX7_isRow, .static yX7_isRow, .initialized RX7, .code yX7_isRow cX7_isRow 1 (some .boolean), .methodLink RX7 51 yX7_in, .static yX7_in, .code yX7_in cX7_in 3 (some .boolean)] ++ wsX70)
def wsX7_sign : List Cond := .code yX7_sign cX7_sign 3 (some .int) :: ([.fieldLink RX7 7 "CodeHuntModel" "sizesOf" "[I", .methodLink RX7 55 yX7_isRow, .static yX7_isRow, .initialized RX7, .code yX7_isRow cX7_isRow 1 (some .boolean), .methodLink RX7 51 yX7_in, .static yX7_in, .code yX7_in cX7_in 3 (some .boolean), .methodLink RX7 73 yX7_isShift, .static yX7_isShift, .code yX7_isShift cX7_isShift 1 (some .boolean), .methodLink RX7 80 yX7_signOf, .instanceMethod yX7_signOf, .selects RX7 yX7_signOf yX7_signOf, .code yX7_signOf cX7_signOf 3 (some .int), .fieldLink RX7 13 "CodeHuntModel" "signs" "[I"] ++ wsX70)
def wsX7_likeness : List Cond := .code yX7_likeness cX7_likeness 6 (some .int) :: ([.fieldLink RX7 7 "CodeHuntModel" "sizesOf" "[I", .methodLink RX7 80 yX7_signOf, .instanceMethod yX7_signOf, .selects RX7 yX7_signOf yX7_signOf, .initialized RX7, .code yX7_signOf cX7_signOf 3 (some .int), .fieldLink RX7 13 "CodeHuntModel" "signs" "[I"] ++ wsX70)
def wsX7_like : List Cond := .code yX7_like cX7_like 4 (some .int) :: ([.methodLink RX7 55 yX7_isRow, .static yX7_isRow, .initialized RX7, .code yX7_isRow cX7_isRow 1 (some .boolean), .methodLink RX7 51 yX7_in, .static yX7_in, .code yX7_in cX7_in 3 (some .boolean), .methodLink RX7 73 yX7_isShift, .static yX7_isShift, .code yX7_isShift cX7_isShift 1 (some .boolean), .methodLink RX7 76 yX7_arePair, .instanceMethod yX7_arePair, .selects RX7 yX7_arePair yX7_arePair, .code yX7_arePair cX7_arePair 3 (some .boolean), .fieldLink RX7 7 "CodeHuntModel" "sizesOf" "[I", .methodLink RX7 91 yX7_likeness, .instanceMethod yX7_likeness, .selects RX7 yX7_likeness yX7_likeness, .code yX7_likeness cX7_likeness 6 (some .int), .methodLink RX7 80 yX7_signOf, .instanceMethod yX7_signOf, .selects RX7 yX7_signOf yX7_signOf, .code yX7_signOf cX7_signOf 3 (some .int), .fieldLink RX7 13 "CodeHuntModel" "signs" "[I"] ++ wsX70)
def wsX7_most : List Cond := .code yX7_most cX7_most 6 (some .int) :: ([.fieldLink RX7 7 "CodeHuntModel" "sizesOf" "[I", .methodLink RX7 55 yX7_isRow, .static yX7_isRow, .initialized RX7, .code yX7_isRow cX7_isRow 1 (some .boolean), .methodLink RX7 51 yX7_in, .static yX7_in, .code yX7_in cX7_in 3 (some .boolean), .methodLink RX7 76 yX7_arePair, .instanceMethod yX7_arePair, .selects RX7 yX7_arePair yX7_arePair, .code yX7_arePair cX7_arePair 3 (some .boolean), .methodLink RX7 91 yX7_likeness, .instanceMethod yX7_likeness, .selects RX7 yX7_likeness yX7_likeness, .code yX7_likeness cX7_likeness 6 (some .int), .methodLink RX7 80 yX7_signOf, .instanceMethod yX7_signOf, .selects RX7 yX7_signOf yX7_signOf, .code yX7_signOf cX7_signOf 3 (some .int), .fieldLink RX7 13 "CodeHuntModel" "signs" "[I"] ++ wsX70)
def wsX7_sample : List Cond := .code yX7_sample cX7_sample 4 (some .int) :: ([.fieldLink RX7 35 "CodeHuntModel" "isThere" "[Z", .fieldLink RX7 42 "CodeHuntModel" "sizes" "[I", .fieldLink RX7 45 "CodeHuntModel" "items" "[I", .methodLink RX7 51 yX7_in, .static yX7_in, .initialized RX7, .code yX7_in cX7_in 3 (some .boolean)] ++ wsX70)
def wsX7_heardOf : List Cond := .code yX7_heardOf cX7_heardOf 13 (some .int) :: ([.fieldLink RX7 7 "CodeHuntModel" "sizesOf" "[I", .methodLink RX7 94 yX7_sample, .instanceMethod yX7_sample, .selects RX7 yX7_sample yX7_sample, .initialized RX7, .code yX7_sample cX7_sample 4 (some .int), .fieldLink RX7 35 "CodeHuntModel" "isThere" "[Z", .fieldLink RX7 42 "CodeHuntModel" "sizes" "[I", .fieldLink RX7 45 "CodeHuntModel" "items" "[I", .methodLink RX7 51 yX7_in, .static yX7_in, .code yX7_in cX7_in 3 (some .boolean), .methodLink RX7 80 yX7_signOf, .instanceMethod yX7_signOf, .selects RX7 yX7_signOf yX7_signOf, .code yX7_signOf cX7_signOf 3 (some .int), .fieldLink RX7 13 "CodeHuntModel" "signs" "[I"] ++ wsX70)
def wsX7_heard_r1 : List Cond := [Cond.fieldLink RX7 7 "CodeHuntModel" "sizesOf" "[I", Cond.constant RX7 97 (-2147483648), Cond.methodLink RX7 55 yX7_isRow, Cond.static yX7_isRow, Cond.initialized RX7, Cond.code yX7_isRow cX7_isRow 1 (some .boolean), Cond.methodLink RX7 51 yX7_in, Cond.static yX7_in, Cond.code yX7_in cX7_in 3 (some .boolean), Cond.methodLink RX7 73 yX7_isShift, Cond.static yX7_isShift, Cond.code yX7_isShift cX7_isShift 1 (some .boolean), Cond.methodLink RX7 98 yX7_heardOf, Cond.instanceMethod yX7_heardOf, Cond.selects RX7 yX7_heardOf yX7_heardOf, Cond.code yX7_heardOf cX7_heardOf 13 (some .int), Cond.methodLink RX7 94 yX7_sample, Cond.instanceMethod yX7_sample, Cond.selects RX7 yX7_sample yX7_sample, Cond.code yX7_sample cX7_sample 4 (some .int), Cond.fieldLink RX7 35 "CodeHuntModel" "isThere" "[Z", Cond.fieldLink RX7 42 "CodeHuntModel" "sizes" "[I", Cond.fieldLink RX7 45 "CodeHuntModel" "items" "[I", Cond.methodLink RX7 80 yX7_signOf]
def wsX7_heard_r2 : List Cond := [Cond.instanceMethod yX7_signOf, Cond.selects RX7 yX7_signOf yX7_signOf, Cond.code yX7_signOf cX7_signOf 3 (some .int), Cond.fieldLink RX7 13 "CodeHuntModel" "signs" "[I"]
def wsX7_heard : List Cond := .code yX7_heard cX7_heard 6 (some .int) :: ((wsX7_heard_r1 ++ wsX7_heard_r2) ++ wsX70)
def wsX7_finds : List Cond := .code yX7_finds cX7_finds 12 (some .int) :: ([.constantLong RX7 102 (-1), .fieldLink RX7 104 "CodeHuntModel" "greatest" "J", .fieldLink RX7 108 "CodeHuntModel" "other" "J", .fieldLink RX7 7 "CodeHuntModel" "sizesOf" "[I", .methodLink RX7 98 yX7_heardOf, .instanceMethod yX7_heardOf, .selects RX7 yX7_heardOf yX7_heardOf, .initialized RX7, .code yX7_heardOf cX7_heardOf 13 (some .int), .methodLink RX7 94 yX7_sample, .instanceMethod yX7_sample, .selects RX7 yX7_sample yX7_sample, .code yX7_sample cX7_sample 4 (some .int), .fieldLink RX7 35 "CodeHuntModel" "isThere" "[Z", .fieldLink RX7 42 "CodeHuntModel" "sizes" "[I", .fieldLink RX7 45 "CodeHuntModel" "items" "[I", .methodLink RX7 51 yX7_in, .static yX7_in, .code yX7_in cX7_in 3 (some .boolean), .methodLink RX7 80 yX7_signOf, .instanceMethod yX7_signOf, .selects RX7 yX7_signOf yX7_signOf, .code yX7_signOf cX7_signOf 3 (some .int), .fieldLink RX7 13 "CodeHuntModel" "signs" "[I"] ++ wsX70)
def wsX7_refuses : List Cond := .code yX7_refuses cX7_refuses 3 (some .int) :: ([.fieldLink RX7 7 "CodeHuntModel" "sizesOf" "[I", .methodLink RX7 55 yX7_isRow, .static yX7_isRow, .initialized RX7, .code yX7_isRow cX7_isRow 1 (some .boolean), .methodLink RX7 51 yX7_in, .static yX7_in, .code yX7_in cX7_in 3 (some .boolean)] ++ wsX70)
def wsX7_search_r1 : List Cond := [Cond.methodLink RX7 111 yX7_refuses, Cond.instanceMethod yX7_refuses, Cond.selects RX7 yX7_refuses yX7_refuses, Cond.initialized RX7, Cond.code yX7_refuses cX7_refuses 3 (some .int), Cond.fieldLink RX7 7 "CodeHuntModel" "sizesOf" "[I", Cond.methodLink RX7 55 yX7_isRow, Cond.static yX7_isRow, Cond.code yX7_isRow cX7_isRow 1 (some .boolean), Cond.methodLink RX7 51 yX7_in, Cond.static yX7_in, Cond.code yX7_in cX7_in 3 (some .boolean), Cond.methodLink RX7 114 yX7_finds, Cond.instanceMethod yX7_finds, Cond.selects RX7 yX7_finds yX7_finds, Cond.code yX7_finds cX7_finds 12 (some .int), Cond.constantLong RX7 102 (-1), Cond.fieldLink RX7 104 "CodeHuntModel" "greatest" "J", Cond.fieldLink RX7 108 "CodeHuntModel" "other" "J", Cond.methodLink RX7 98 yX7_heardOf, Cond.instanceMethod yX7_heardOf, Cond.selects RX7 yX7_heardOf yX7_heardOf, Cond.code yX7_heardOf cX7_heardOf 13 (some .int), Cond.methodLink RX7 94 yX7_sample]
def wsX7_search_r2 : List Cond := [Cond.instanceMethod yX7_sample, Cond.selects RX7 yX7_sample yX7_sample, Cond.code yX7_sample cX7_sample 4 (some .int), Cond.fieldLink RX7 35 "CodeHuntModel" "isThere" "[Z", Cond.fieldLink RX7 42 "CodeHuntModel" "sizes" "[I", Cond.fieldLink RX7 45 "CodeHuntModel" "items" "[I", Cond.methodLink RX7 80 yX7_signOf, Cond.instanceMethod yX7_signOf, Cond.selects RX7 yX7_signOf yX7_signOf, Cond.code yX7_signOf cX7_signOf 3 (some .int), Cond.fieldLink RX7 13 "CodeHuntModel" "signs" "[I"]
def wsX7_search : List Cond := .code yX7_search cX7_search 4 (some .int) :: ((wsX7_search_r1 ++ wsX7_search_r2) ++ wsX70)
def wsX7_sure_r1 : List Cond := [Cond.fieldLink RX7 104 "CodeHuntModel" "greatest" "J", Cond.constantLong RX7 117 (100), Cond.fieldLink RX7 108 "CodeHuntModel" "other" "J", Cond.fieldLink RX7 19 "CodeHuntModel" "doubt" "I", Cond.methodLink RX7 111 yX7_refuses, Cond.instanceMethod yX7_refuses, Cond.selects RX7 yX7_refuses yX7_refuses, Cond.initialized RX7, Cond.code yX7_refuses cX7_refuses 3 (some .int), Cond.fieldLink RX7 7 "CodeHuntModel" "sizesOf" "[I", Cond.methodLink RX7 55 yX7_isRow, Cond.static yX7_isRow, Cond.code yX7_isRow cX7_isRow 1 (some .boolean), Cond.methodLink RX7 51 yX7_in, Cond.static yX7_in, Cond.code yX7_in cX7_in 3 (some .boolean), Cond.methodLink RX7 114 yX7_finds, Cond.instanceMethod yX7_finds, Cond.selects RX7 yX7_finds yX7_finds, Cond.code yX7_finds cX7_finds 12 (some .int), Cond.constantLong RX7 102 (-1), Cond.methodLink RX7 98 yX7_heardOf, Cond.instanceMethod yX7_heardOf, Cond.selects RX7 yX7_heardOf yX7_heardOf]
def wsX7_sure_r2 : List Cond := [Cond.code yX7_heardOf cX7_heardOf 13 (some .int), Cond.methodLink RX7 94 yX7_sample, Cond.instanceMethod yX7_sample, Cond.selects RX7 yX7_sample yX7_sample, Cond.code yX7_sample cX7_sample 4 (some .int), Cond.fieldLink RX7 35 "CodeHuntModel" "isThere" "[Z", Cond.fieldLink RX7 42 "CodeHuntModel" "sizes" "[I", Cond.fieldLink RX7 45 "CodeHuntModel" "items" "[I", Cond.methodLink RX7 80 yX7_signOf, Cond.instanceMethod yX7_signOf, Cond.selects RX7 yX7_signOf yX7_signOf, Cond.code yX7_signOf cX7_signOf 3 (some .int), Cond.fieldLink RX7 13 "CodeHuntModel" "signs" "[I"]
def wsX7_sure : List Cond := .code yX7_sure cX7_sure 5 (some .int) :: ((wsX7_sure_r1 ++ wsX7_sure_r2) ++ wsX70)
def wsX7_power_r1 : List Cond := [Cond.constantLong RX7 119 (-9223372036854775808), Cond.fieldLink RX7 104 "CodeHuntModel" "greatest" "J", Cond.methodLink RX7 111 yX7_refuses, Cond.instanceMethod yX7_refuses, Cond.selects RX7 yX7_refuses yX7_refuses, Cond.initialized RX7, Cond.code yX7_refuses cX7_refuses 3 (some .int), Cond.fieldLink RX7 7 "CodeHuntModel" "sizesOf" "[I", Cond.methodLink RX7 55 yX7_isRow, Cond.static yX7_isRow, Cond.code yX7_isRow cX7_isRow 1 (some .boolean), Cond.methodLink RX7 51 yX7_in, Cond.static yX7_in, Cond.code yX7_in cX7_in 3 (some .boolean), Cond.methodLink RX7 114 yX7_finds, Cond.instanceMethod yX7_finds, Cond.selects RX7 yX7_finds yX7_finds, Cond.code yX7_finds cX7_finds 12 (some .int), Cond.constantLong RX7 102 (-1), Cond.fieldLink RX7 108 "CodeHuntModel" "other" "J", Cond.methodLink RX7 98 yX7_heardOf, Cond.instanceMethod yX7_heardOf, Cond.selects RX7 yX7_heardOf yX7_heardOf, Cond.code yX7_heardOf cX7_heardOf 13 (some .int)]
def wsX7_power_r2 : List Cond := [Cond.methodLink RX7 94 yX7_sample, Cond.instanceMethod yX7_sample, Cond.selects RX7 yX7_sample yX7_sample, Cond.code yX7_sample cX7_sample 4 (some .int), Cond.fieldLink RX7 35 "CodeHuntModel" "isThere" "[Z", Cond.fieldLink RX7 42 "CodeHuntModel" "sizes" "[I", Cond.fieldLink RX7 45 "CodeHuntModel" "items" "[I", Cond.methodLink RX7 80 yX7_signOf, Cond.instanceMethod yX7_signOf, Cond.selects RX7 yX7_signOf yX7_signOf, Cond.code yX7_signOf cX7_signOf 3 (some .int), Cond.fieldLink RX7 13 "CodeHuntModel" "signs" "[I"]
def wsX7_power : List Cond := .code yX7_power cX7_power 5 (some .long) :: ((wsX7_power_r1 ++ wsX7_power_r2) ++ wsX70)
def wsX7_doubt : List Cond := .code yX7_doubt cX7_doubt 3 (some .int) :: ([.fieldLink RX7 19 "CodeHuntModel" "doubt" "I", .methodLink RX7 51 yX7_in, .static yX7_in, .initialized RX7, .code yX7_in cX7_in 3 (some .boolean)] ++ wsX70)
def wsX7_takesOff : List Cond := .code yX7_takesOff cX7_takesOff 10 (some .boolean) :: ([.fieldLink RX7 7 "CodeHuntModel" "sizesOf" "[I", .fieldLink RX7 26 "CodeHuntModel" "left" "[I", .fieldLink RX7 23 "CodeHuntModel" "peeled" "[I", .fieldLink RX7 121 "CodeHuntModel" "times" "I", .methodLink RX7 80 yX7_signOf, .instanceMethod yX7_signOf, .selects RX7 yX7_signOf yX7_signOf, .initialized RX7, .code yX7_signOf cX7_signOf 3 (some .int), .fieldLink RX7 13 "CodeHuntModel" "signs" "[I"] ++ wsX70)
def wsX7_peel_r1 : List Cond := [Cond.fieldLink RX7 7 "CodeHuntModel" "sizesOf" "[I", Cond.fieldLink RX7 26 "CodeHuntModel" "left" "[I", Cond.fieldLink RX7 121 "CodeHuntModel" "times" "I", Cond.fieldLink RX7 127 "CodeHuntModel" "noise" "J", Cond.methodLink RX7 51 yX7_in, Cond.static yX7_in, Cond.initialized RX7, Cond.code yX7_in cX7_in 3 (some .boolean), Cond.methodLink RX7 94 yX7_sample, Cond.instanceMethod yX7_sample, Cond.selects RX7 yX7_sample yX7_sample, Cond.code yX7_sample cX7_sample 4 (some .int), Cond.fieldLink RX7 35 "CodeHuntModel" "isThere" "[Z", Cond.fieldLink RX7 42 "CodeHuntModel" "sizes" "[I", Cond.fieldLink RX7 45 "CodeHuntModel" "items" "[I", Cond.methodLink RX7 124 yX7_takesOff, Cond.instanceMethod yX7_takesOff, Cond.selects RX7 yX7_takesOff yX7_takesOff, Cond.code yX7_takesOff cX7_takesOff 10 (some .boolean), Cond.fieldLink RX7 23 "CodeHuntModel" "peeled" "[I", Cond.methodLink RX7 80 yX7_signOf, Cond.instanceMethod yX7_signOf, Cond.selects RX7 yX7_signOf yX7_signOf, Cond.code yX7_signOf cX7_signOf 3 (some .int)]
def wsX7_peel_r2 : List Cond := [Cond.fieldLink RX7 13 "CodeHuntModel" "signs" "[I"]
def wsX7_peel : List Cond := .code yX7_peel cX7_peel 5 (some .int) :: ((wsX7_peel_r1 ++ wsX7_peel_r2) ++ wsX70)
def wsX7_peeled : List Cond := .code yX7_peeled cX7_peeled 3 (some .int) :: ([.fieldLink RX7 121 "CodeHuntModel" "times" "I", .fieldLink RX7 23 "CodeHuntModel" "peeled" "[I", .constant RX7 130 (-1000000), .methodLink RX7 51 yX7_in, .static yX7_in, .initialized RX7, .code yX7_in cX7_in 3 (some .boolean)] ++ wsX70)
def wsX7_noise : List Cond := .code yX7_noise cX7_noise 1 (some .long) :: ([.fieldLink RX7 127 "CodeHuntModel" "noise" "J"] ++ wsX70)
def wsX7_amount : List Cond := .code yX7_amount cX7_amount 6 (some .int) :: ([.fieldLink RX7 7 "CodeHuntModel" "sizesOf" "[I", .methodLink RX7 80 yX7_signOf, .instanceMethod yX7_signOf, .selects RX7 yX7_signOf yX7_signOf, .initialized RX7, .code yX7_signOf cX7_signOf 3 (some .int), .fieldLink RX7 13 "CodeHuntModel" "signs" "[I", .methodLink RX7 94 yX7_sample, .instanceMethod yX7_sample, .selects RX7 yX7_sample yX7_sample, .code yX7_sample cX7_sample 4 (some .int), .fieldLink RX7 35 "CodeHuntModel" "isThere" "[Z", .fieldLink RX7 42 "CodeHuntModel" "sizes" "[I", .fieldLink RX7 45 "CodeHuntModel" "items" "[I", .methodLink RX7 51 yX7_in, .static yX7_in, .code yX7_in cX7_in 3 (some .boolean)] ++ wsX70)
def wsX7_follow_r1 : List Cond := [Cond.fieldLink RX7 7 "CodeHuntModel" "sizesOf" "[I", Cond.methodLink RX7 55 yX7_isRow, Cond.static yX7_isRow, Cond.initialized RX7, Cond.code yX7_isRow cX7_isRow 1 (some .boolean), Cond.methodLink RX7 51 yX7_in, Cond.static yX7_in, Cond.code yX7_in cX7_in 3 (some .boolean), Cond.methodLink RX7 73 yX7_isShift, Cond.static yX7_isShift, Cond.code yX7_isShift cX7_isShift 1 (some .boolean), Cond.methodLink RX7 131 yX7_amount, Cond.instanceMethod yX7_amount, Cond.selects RX7 yX7_amount yX7_amount, Cond.code yX7_amount cX7_amount 6 (some .int), Cond.methodLink RX7 80 yX7_signOf, Cond.instanceMethod yX7_signOf, Cond.selects RX7 yX7_signOf yX7_signOf, Cond.code yX7_signOf cX7_signOf 3 (some .int), Cond.fieldLink RX7 13 "CodeHuntModel" "signs" "[I", Cond.methodLink RX7 94 yX7_sample, Cond.instanceMethod yX7_sample, Cond.selects RX7 yX7_sample yX7_sample, Cond.code yX7_sample cX7_sample 4 (some .int)]
def wsX7_follow_r2 : List Cond := [Cond.fieldLink RX7 35 "CodeHuntModel" "isThere" "[Z", Cond.fieldLink RX7 42 "CodeHuntModel" "sizes" "[I", Cond.fieldLink RX7 45 "CodeHuntModel" "items" "[I"]
def wsX7_follow : List Cond := .code yX7_follow cX7_follow 12 (some .int) :: ((wsX7_follow_r1 ++ wsX7_follow_r2) ++ wsX70)
def wsX7_divisor : List Cond := .code yX7_divisor cX7_divisor 5 (some .int) :: ([])
def wsX7_length : List Cond := .code yX7_length cX7_length 4 (some .int) :: ([.fieldLink RX7 134 "CodeHuntModel" "lengths" "I", .fieldLink RX7 29 "CodeHuntModel" "lengthOf" "[I", .fieldLink RX7 32 "CodeHuntModel" "shiftOf" "[I", .methodLink RX7 51 yX7_in, .static yX7_in, .initialized RX7, .code yX7_in cX7_in 3 (some .boolean), .methodLink RX7 137 yX7_divisor, .static yX7_divisor, .code yX7_divisor cX7_divisor 5 (some .int)] ++ wsX70)
def wsX7_reset : List Cond := .code yX7_reset cX7_reset 2 (some .int) :: ([.fieldLink RX7 134 "CodeHuntModel" "lengths" "I"] ++ wsX70)
def wsX7_range : List Cond := .code yX7_range cX7_range 6 (some .long) :: ([.fieldLink RX7 134 "CodeHuntModel" "lengths" "I", .fieldLink RX7 29 "CodeHuntModel" "lengthOf" "[I", .fieldLink RX7 32 "CodeHuntModel" "shiftOf" "[I"] ++ wsX70)
def wsX7_mend : List Cond := .code yX7_mend cX7_mend 7 (some .int) :: ([.fieldLink RX7 134 "CodeHuntModel" "lengths" "I", .fieldLink RX7 29 "CodeHuntModel" "lengthOf" "[I", .fieldLink RX7 32 "CodeHuntModel" "shiftOf" "[I", .methodLink RX7 51 yX7_in, .static yX7_in, .initialized RX7, .code yX7_in cX7_in 3 (some .boolean)] ++ wsX70)
def wsX7_isPrime : List Cond := .code yX7_isPrime cX7_isPrime 2 (some .boolean) :: ([.methodLink RX7 51 yX7_in, .static yX7_in, .initialized RX7, .code yX7_in cX7_in 3 (some .boolean)])
def wsX7_hitsOf : List Cond := .code yX7_hitsOf cX7_hitsOf 7 (some .int) :: ([])
def wsX7_isHop : List Cond := .code yX7_isHop cX7_isHop 2 (some .boolean) :: ([.methodLink RX7 140 yX7_isPrime, .static yX7_isPrime, .initialized RX7, .code yX7_isPrime cX7_isPrime 2 (some .boolean), .methodLink RX7 51 yX7_in, .static yX7_in, .code yX7_in cX7_in 3 (some .boolean)])
def wsX7_hits : List Cond := .code yX7_hits cX7_hits 6 (some .int) :: ([.methodLink RX7 143 yX7_isHop, .static yX7_isHop, .initialized RX7, .code yX7_isHop cX7_isHop 2 (some .boolean), .methodLink RX7 140 yX7_isPrime, .static yX7_isPrime, .code yX7_isPrime cX7_isPrime 2 (some .boolean), .methodLink RX7 51 yX7_in, .static yX7_in, .code yX7_in cX7_in 3 (some .boolean), .methodLink RX7 146 yX7_hitsOf, .static yX7_hitsOf, .code yX7_hitsOf cX7_hitsOf 7 (some .int)])
def wsX7_worst : List Cond := .code yX7_worst cX7_worst 8 (some .int) :: ([.methodLink RX7 143 yX7_isHop, .static yX7_isHop, .initialized RX7, .code yX7_isHop cX7_isHop 2 (some .boolean), .methodLink RX7 140 yX7_isPrime, .static yX7_isPrime, .code yX7_isPrime cX7_isPrime 2 (some .boolean), .methodLink RX7 51 yX7_in, .static yX7_in, .code yX7_in cX7_in 3 (some .boolean), .methodLink RX7 146 yX7_hitsOf, .static yX7_hitsOf, .code yX7_hitsOf cX7_hitsOf 7 (some .int)])
def wsX7_reel : List Cond := .code yX7_reel cX7_reel 5 (some .int) :: ([.fieldLink RX7 35 "CodeHuntModel" "isThere" "[Z", .fieldLink RX7 39 "CodeHuntModel" "forms" "[I", .fieldLink RX7 42 "CodeHuntModel" "sizes" "[I", .fieldLink RX7 45 "CodeHuntModel" "items" "[I", .methodLink RX7 84 yX7_isReel, .static yX7_isReel, .initialized RX7, .code yX7_isReel cX7_isReel 1 (some .boolean), .methodLink RX7 51 yX7_in, .static yX7_in, .code yX7_in cX7_in 3 (some .boolean), .methodLink RX7 87 yX7_meets, .instanceMethod yX7_meets, .selects RX7 yX7_meets yX7_meets, .code yX7_meets cX7_meets 2 (some .int), .fieldLink RX7 149 "CodeHuntModel" "finding" "I"] ++ wsX70)
def wsX7_lose : List Cond := .code yX7_lose cX7_lose 2 (some .int) :: ([.fieldLink RX7 35 "CodeHuntModel" "isThere" "[Z", .fieldLink RX7 42 "CodeHuntModel" "sizes" "[I", .methodLink RX7 84 yX7_isReel, .static yX7_isReel, .initialized RX7, .code yX7_isReel cX7_isReel 1 (some .boolean), .methodLink RX7 51 yX7_in, .static yX7_in, .code yX7_in cX7_in 3 (some .boolean), .methodLink RX7 87 yX7_meets, .instanceMethod yX7_meets, .selects RX7 yX7_meets yX7_meets, .code yX7_meets cX7_meets 2 (some .int), .fieldLink RX7 149 "CodeHuntModel" "finding" "I"] ++ wsX70)
def wsX7_lacks : List Cond := .code yX7_lacks cX7_lacks 4 (some .int) :: ([.fieldLink RX7 35 "CodeHuntModel" "isThere" "[Z", .fieldLink RX7 39 "CodeHuntModel" "forms" "[I", .fieldLink RX7 42 "CodeHuntModel" "sizes" "[I", .methodLink RX7 51 yX7_in, .static yX7_in, .initialized RX7, .code yX7_in cX7_in 3 (some .boolean)] ++ wsX70)
def wsX7_cut : List Cond := .code yX7_cut cX7_cut 2 (some .int) :: ([])
def wsX7_put : List Cond := .code yX7_put cX7_put 6 (some .int) :: ([.fieldLink RX7 45 "CodeHuntModel" "items" "[I", .methodLink RX7 84 yX7_isReel, .static yX7_isReel, .initialized RX7, .code yX7_isReel cX7_isReel 1 (some .boolean), .methodLink RX7 51 yX7_in, .static yX7_in, .code yX7_in cX7_in 3 (some .boolean), .methodLink RX7 152 yX7_lacks, .instanceMethod yX7_lacks, .selects RX7 yX7_lacks yX7_lacks, .code yX7_lacks cX7_lacks 4 (some .int), .fieldLink RX7 35 "CodeHuntModel" "isThere" "[Z", .fieldLink RX7 39 "CodeHuntModel" "forms" "[I", .fieldLink RX7 42 "CodeHuntModel" "sizes" "[I", .methodLink RX7 87 yX7_meets, .instanceMethod yX7_meets, .selects RX7 yX7_meets yX7_meets, .code yX7_meets cX7_meets 2 (some .int), .fieldLink RX7 149 "CodeHuntModel" "finding" "I", .methodLink RX7 155 yX7_cut, .static yX7_cut, .code yX7_cut cX7_cut 2 (some .int)] ++ wsX70)
def wsX7_get : List Cond := .code yX7_get cX7_get 5 (some .int) :: ([.constant RX7 97 (-2147483648), .fieldLink RX7 149 "CodeHuntModel" "finding" "I", .fieldLink RX7 45 "CodeHuntModel" "items" "[I", .methodLink RX7 84 yX7_isReel, .static yX7_isReel, .initialized RX7, .code yX7_isReel cX7_isReel 1 (some .boolean), .methodLink RX7 51 yX7_in, .static yX7_in, .code yX7_in cX7_in 3 (some .boolean), .methodLink RX7 152 yX7_lacks, .instanceMethod yX7_lacks, .selects RX7 yX7_lacks yX7_lacks, .code yX7_lacks cX7_lacks 4 (some .int), .fieldLink RX7 35 "CodeHuntModel" "isThere" "[Z", .fieldLink RX7 39 "CodeHuntModel" "forms" "[I", .fieldLink RX7 42 "CodeHuntModel" "sizes" "[I"] ++ wsX70)
def wsX7_copy : List Cond := .code yX7_copy cX7_copy 7 (some .int) :: ([.fieldLink RX7 35 "CodeHuntModel" "isThere" "[Z", .fieldLink RX7 39 "CodeHuntModel" "forms" "[I", .fieldLink RX7 42 "CodeHuntModel" "sizes" "[I", .fieldLink RX7 48 "CodeHuntModel" "moved" "[I", .fieldLink RX7 45 "CodeHuntModel" "items" "[I", .methodLink RX7 84 yX7_isReel, .static yX7_isReel, .initialized RX7, .code yX7_isReel cX7_isReel 1 (some .boolean), .methodLink RX7 51 yX7_in, .static yX7_in, .code yX7_in cX7_in 3 (some .boolean), .methodLink RX7 87 yX7_meets, .instanceMethod yX7_meets, .selects RX7 yX7_meets yX7_meets, .code yX7_meets cX7_meets 2 (some .int), .fieldLink RX7 149 "CodeHuntModel" "finding" "I"] ++ wsX70)
def wsX7_add_r1 : List Cond := [Cond.fieldLink RX7 35 "CodeHuntModel" "isThere" "[Z", Cond.fieldLink RX7 7 "CodeHuntModel" "sizesOf" "[I", Cond.fieldLink RX7 42 "CodeHuntModel" "sizes" "[I", Cond.fieldLink RX7 45 "CodeHuntModel" "items" "[I", Cond.fieldLink RX7 39 "CodeHuntModel" "forms" "[I", Cond.methodLink RX7 55 yX7_isRow, Cond.static yX7_isRow, Cond.initialized RX7, Cond.code yX7_isRow cX7_isRow 1 (some .boolean), Cond.methodLink RX7 51 yX7_in, Cond.static yX7_in, Cond.code yX7_in cX7_in 3 (some .boolean), Cond.methodLink RX7 84 yX7_isReel, Cond.static yX7_isReel, Cond.code yX7_isReel cX7_isReel 1 (some .boolean), Cond.methodLink RX7 73 yX7_isShift, Cond.static yX7_isShift, Cond.code yX7_isShift cX7_isShift 1 (some .boolean), Cond.methodLink RX7 87 yX7_meets, Cond.instanceMethod yX7_meets, Cond.selects RX7 yX7_meets yX7_meets, Cond.code yX7_meets cX7_meets 2 (some .int), Cond.fieldLink RX7 149 "CodeHuntModel" "finding" "I", Cond.methodLink RX7 80 yX7_signOf]
def wsX7_add_r2 : List Cond := [Cond.instanceMethod yX7_signOf, Cond.selects RX7 yX7_signOf yX7_signOf, Cond.code yX7_signOf cX7_signOf 3 (some .int), Cond.fieldLink RX7 13 "CodeHuntModel" "signs" "[I", Cond.methodLink RX7 155 yX7_cut, Cond.static yX7_cut, Cond.code yX7_cut cX7_cut 2 (some .int)]
def wsX7_add : List Cond := .code yX7_add cX7_add 9 (some .int) :: ((wsX7_add_r1 ++ wsX7_add_r2) ++ wsX70)
def wsX7_rowsThere : List Cond := .code yX7_rowsThere cX7_rowsThere 3 (some .int) :: ([.fieldLink RX7 7 "CodeHuntModel" "sizesOf" "[I"] ++ wsX70)
def wsX7_count : List Cond := .code yX7_count cX7_count 2 (some .int) :: ([.fieldLink RX7 134 "CodeHuntModel" "lengths" "I", .fieldLink RX7 19 "CodeHuntModel" "doubt" "I", .fieldLink RX7 149 "CodeHuntModel" "finding" "I", .fieldLink RX7 121 "CodeHuntModel" "times" "I", .methodLink RX7 158 yX7_rowsThere, .instanceMethod yX7_rowsThere, .selects RX7 yX7_rowsThere yX7_rowsThere, .initialized RX7, .code yX7_rowsThere cX7_rowsThere 3 (some .int), .fieldLink RX7 7 "CodeHuntModel" "sizesOf" "[I"] ++ wsX70)
def wsX7_digest_r1 : List Cond := [Cond.constantLong RX7 162 (17), Cond.constantLong RX7 164 (31), Cond.fieldLink RX7 7 "CodeHuntModel" "sizesOf" "[I", Cond.fieldLink RX7 127 "CodeHuntModel" "noise" "J", Cond.methodLink RX7 166 yX7_count, Cond.instanceMethod yX7_count, Cond.selects RX7 yX7_count yX7_count, Cond.initialized RX7, Cond.code yX7_count cX7_count 2 (some .int), Cond.fieldLink RX7 134 "CodeHuntModel" "lengths" "I", Cond.fieldLink RX7 19 "CodeHuntModel" "doubt" "I", Cond.fieldLink RX7 149 "CodeHuntModel" "finding" "I", Cond.fieldLink RX7 121 "CodeHuntModel" "times" "I", Cond.methodLink RX7 158 yX7_rowsThere, Cond.instanceMethod yX7_rowsThere, Cond.selects RX7 yX7_rowsThere yX7_rowsThere, Cond.code yX7_rowsThere cX7_rowsThere 3 (some .int), Cond.methodLink RX7 80 yX7_signOf, Cond.instanceMethod yX7_signOf, Cond.selects RX7 yX7_signOf yX7_signOf, Cond.code yX7_signOf cX7_signOf 3 (some .int), Cond.fieldLink RX7 13 "CodeHuntModel" "signs" "[I", Cond.methodLink RX7 169 yX7_range, Cond.instanceMethod yX7_range]
def wsX7_digest_r2 : List Cond := [Cond.selects RX7 yX7_range yX7_range, Cond.code yX7_range cX7_range 6 (some .long), Cond.fieldLink RX7 29 "CodeHuntModel" "lengthOf" "[I", Cond.fieldLink RX7 32 "CodeHuntModel" "shiftOf" "[I"]
def wsX7_digest : List Cond := .code yX7_digest cX7_digest 5 (some .long) :: ((wsX7_digest_r1 ++ wsX7_digest_r2) ++ wsX70)
def wsJ9_abs_0f7a4 : List Cond := .code yJ9_abs_0f7a4 cJ9_abs_0f7a4 1 (some .int) :: ([])
def wsJ9_max_7cf53 : List Cond := .code yJ9_max_7cf53 cJ9_max_7cf53 2 (some .int) :: ([])
def wsJ9_min_7cf53 : List Cond := .code yJ9_min_7cf53 cJ9_min_7cf53 2 (some .int) :: ([])
theorem inJ6 : ∀ w ∈ wsJ60, w ∈ lw_tbl := by decide +kernel
theorem inJ9 : ∀ w ∈ wsJ90, w ∈ lw_tbl := by decide +kernel
theorem inJ10 : ∀ w ∈ wsJ100, w ∈ lw_tbl := by decide +kernel
abbrev vwCl : List vw_C := [(RX0, TX0, 3), (RX1, TX1, 5), (RX2, TX2, 4), (RX3, TX3, 2), (RX4, TX4, 4), (RX5, TX5, 5), (RX6, TX6, 8), (RX7, TX7, 19)]
end
section
theorem dX0_init_0 : decode cX0_init 0 = .ok (.aload_n 0, 1) := by decide +kernel
theorem dX0_init_1 : decode cX0_init 1 = .ok (.invokespecial 3, 3) := by decide +kernel
theorem dX0_init_4 : decode cX0_init 4 = .ok (.aload_n 0, 1) := by decide +kernel
theorem dX0_init_5 : decode cX0_init 5 = .ok (.iconst 5, 1) := by decide +kernel
theorem dX0_init_6 : decode cX0_init 6 = .ok (.newarray .int, 2) := by decide +kernel
theorem dX0_init_8 : decode cX0_init 8 = .ok (.putfield 9, 3) := by decide +kernel
theorem dX0_init_11 : decode cX0_init 11 = .ok (.aload_n 0, 1) := by decide +kernel
theorem dX0_init_12 : decode cX0_init 12 = .ok (.iconst 5, 1) := by decide +kernel
theorem dX0_init_13 : decode cX0_init 13 = .ok (.newarray .int, 2) := by decide +kernel
theorem dX0_init_15 : decode cX0_init 15 = .ok (.putfield 15, 3) := by decide +kernel
theorem dX0_init_18 : decode cX0_init 18 = .ok (.aload_n 0, 1) := by decide +kernel
theorem dX0_init_19 : decode cX0_init 19 = .ok (.iconst 0, 1) := by decide +kernel
theorem dX0_init_20 : decode cX0_init 20 = .ok (.putfield 18, 3) := by decide +kernel
theorem dX0_init_23 : decode cX0_init 23 = .ok (.return_, 1) := by decide +kernel
theorem dX0_keep_0 : decode cX0_keep 0 = .ok (.aload_n 0, 1) := by decide +kernel
theorem dX0_keep_1 : decode cX0_keep 1 = .ok (.getfield 18, 3) := by decide +kernel
theorem dX0_keep_4 : decode cX0_keep 4 = .ok (.iconst 5, 1) := by decide +kernel
theorem dX0_keep_5 : decode cX0_keep 5 = .ok (.if_icmp .ge 33, 3) := by decide +kernel
theorem dX0_keep_8 : decode cX0_keep 8 = .ok (.aload_n 0, 1) := by decide +kernel
theorem dX0_keep_9 : decode cX0_keep 9 = .ok (.getfield 9, 3) := by decide +kernel
theorem dX0_keep_12 : decode cX0_keep 12 = .ok (.aload_n 0, 1) := by decide +kernel
theorem dX0_keep_13 : decode cX0_keep 13 = .ok (.getfield 18, 3) := by decide +kernel
theorem dX0_keep_16 : decode cX0_keep 16 = .ok (.iload_n 1, 1) := by decide +kernel
theorem dX0_keep_17 : decode cX0_keep 17 = .ok (.iastore, 1) := by decide +kernel
theorem dX0_keep_18 : decode cX0_keep 18 = .ok (.aload_n 0, 1) := by decide +kernel
theorem dX0_keep_19 : decode cX0_keep 19 = .ok (.getfield 15, 3) := by decide +kernel
theorem dX0_keep_22 : decode cX0_keep 22 = .ok (.aload_n 0, 1) := by decide +kernel
theorem dX0_keep_23 : decode cX0_keep 23 = .ok (.getfield 18, 3) := by decide +kernel
theorem dX0_keep_26 : decode cX0_keep 26 = .ok (.iload_n 2, 1) := by decide +kernel
theorem dX0_keep_27 : decode cX0_keep 27 = .ok (.iastore, 1) := by decide +kernel
theorem dX0_keep_28 : decode cX0_keep 28 = .ok (.aload_n 0, 1) := by decide +kernel
theorem dX0_keep_29 : decode cX0_keep 29 = .ok (.dup, 1) := by decide +kernel
theorem dX0_keep_30 : decode cX0_keep 30 = .ok (.getfield 18, 3) := by decide +kernel
theorem dX0_keep_33 : decode cX0_keep 33 = .ok (.iconst 1, 1) := by decide +kernel
theorem dX0_keep_34 : decode cX0_keep 34 = .ok (.iadd, 1) := by decide +kernel
theorem dX0_keep_35 : decode cX0_keep 35 = .ok (.putfield 18, 3) := by decide +kernel
theorem dX0_keep_38 : decode cX0_keep 38 = .ok (.return_, 1) := by decide +kernel
theorem dX0_haveDivisorWith_0 : decode cX0_haveDivisorWith 0 = .ok (.iconst 2, 1) := by decide +kernel
theorem dX0_haveDivisorWith_1 : decode cX0_haveDivisorWith 1 = .ok (.istore_n 2, 1) := by decide +kernel
theorem dX0_haveDivisorWith_2 : decode cX0_haveDivisorWith 2 = .ok (.iload_n 2, 1) := by decide +kernel
theorem dX0_haveDivisorWith_3 : decode cX0_haveDivisorWith 3 = .ok (.iload_n 1, 1) := by decide +kernel
theorem dX0_haveDivisorWith_4 : decode cX0_haveDivisorWith 4 = .ok (.if_icmp .gt 44, 3) := by decide +kernel
theorem dX0_haveDivisorWith_7 : decode cX0_haveDivisorWith 7 = .ok (.iconst 0, 1) := by decide +kernel
theorem dX0_haveDivisorWith_8 : decode cX0_haveDivisorWith 8 = .ok (.istore_n 3, 1) := by decide +kernel
theorem dX0_haveDivisorWith_9 : decode cX0_haveDivisorWith 9 = .ok (.iload_n 3, 1) := by decide +kernel
theorem dX0_haveDivisorWith_10 : decode cX0_haveDivisorWith 10 = .ok (.aload_n 0, 1) := by decide +kernel
theorem dX0_haveDivisorWith_11 : decode cX0_haveDivisorWith 11 = .ok (.getfield 18, 3) := by decide +kernel
theorem dX0_haveDivisorWith_14 : decode cX0_haveDivisorWith 14 = .ok (.if_icmp .ge 28, 3) := by decide +kernel
theorem dX0_haveDivisorWith_17 : decode cX0_haveDivisorWith 17 = .ok (.iload_n 1, 1) := by decide +kernel
theorem dX0_haveDivisorWith_18 : decode cX0_haveDivisorWith 18 = .ok (.iload_n 2, 1) := by decide +kernel
theorem dX0_haveDivisorWith_19 : decode cX0_haveDivisorWith 19 = .ok (.irem, 1) := by decide +kernel
theorem dX0_haveDivisorWith_20 : decode cX0_haveDivisorWith 20 = .ok (.ifCond .ne 16, 3) := by decide +kernel
theorem dX0_haveDivisorWith_23 : decode cX0_haveDivisorWith 23 = .ok (.aload_n 0, 1) := by decide +kernel
theorem dX0_haveDivisorWith_24 : decode cX0_haveDivisorWith 24 = .ok (.getfield 9, 3) := by decide +kernel
theorem dX0_haveDivisorWith_27 : decode cX0_haveDivisorWith 27 = .ok (.iload_n 3, 1) := by decide +kernel
theorem dX0_haveDivisorWith_28 : decode cX0_haveDivisorWith 28 = .ok (.iaload, 1) := by decide +kernel
theorem dX0_haveDivisorWith_29 : decode cX0_haveDivisorWith 29 = .ok (.iload_n 2, 1) := by decide +kernel
theorem dX0_haveDivisorWith_30 : decode cX0_haveDivisorWith 30 = .ok (.irem, 1) := by decide +kernel
theorem dX0_haveDivisorWith_31 : decode cX0_haveDivisorWith 31 = .ok (.ifCond .ne 5, 3) := by decide +kernel
theorem dX0_haveDivisorWith_34 : decode cX0_haveDivisorWith 34 = .ok (.iconst 1, 1) := by decide +kernel
theorem dX0_haveDivisorWith_35 : decode cX0_haveDivisorWith 35 = .ok (.ireturn, 1) := by decide +kernel
theorem dX0_haveDivisorWith_36 : decode cX0_haveDivisorWith 36 = .ok (.iinc 3 1, 3) := by decide +kernel
theorem dX0_haveDivisorWith_39 : decode cX0_haveDivisorWith 39 = .ok (.goto (-30), 3) := by decide +kernel
theorem dX0_haveDivisorWith_42 : decode cX0_haveDivisorWith 42 = .ok (.iinc 2 1, 3) := by decide +kernel
theorem dX0_haveDivisorWith_45 : decode cX0_haveDivisorWith 45 = .ok (.goto (-43), 3) := by decide +kernel
theorem dX0_haveDivisorWith_48 : decode cX0_haveDivisorWith 48 = .ok (.iconst 0, 1) := by decide +kernel
theorem dX0_haveDivisorWith_49 : decode cX0_haveDivisorWith 49 = .ok (.ireturn, 1) := by decide +kernel
theorem dX0_fits_0 : decode cX0_fits 0 = .ok (.aload_n 0, 1) := by decide +kernel
theorem dX0_fits_1 : decode cX0_fits 1 = .ok (.getfield 9, 3) := by decide +kernel
theorem dX0_fits_4 : decode cX0_fits 4 = .ok (.iload_n 3, 1) := by decide +kernel
theorem dX0_fits_5 : decode cX0_fits 5 = .ok (.iaload, 1) := by decide +kernel
theorem dX0_fits_6 : decode cX0_fits 6 = .ok (.ifCond .le 27, 3) := by decide +kernel
theorem dX0_fits_9 : decode cX0_fits 9 = .ok (.lload_n 1, 1) := by decide +kernel
theorem dX0_fits_10 : decode cX0_fits 10 = .ok (.aload_n 0, 1) := by decide +kernel
theorem dX0_fits_11 : decode cX0_fits 11 = .ok (.getfield 9, 3) := by decide +kernel
theorem dX0_fits_14 : decode cX0_fits 14 = .ok (.iload_n 3, 1) := by decide +kernel
theorem dX0_fits_15 : decode cX0_fits 15 = .ok (.iaload, 1) := by decide +kernel
theorem dX0_fits_16 : decode cX0_fits 16 = .ok (.i2l, 1) := by decide +kernel
theorem dX0_fits_17 : decode cX0_fits 17 = .ok (.lrem, 1) := by decide +kernel
theorem dX0_fits_18 : decode cX0_fits 18 = .ok (.aload_n 0, 1) := by decide +kernel
theorem dX0_fits_19 : decode cX0_fits 19 = .ok (.getfield 15, 3) := by decide +kernel
theorem dX0_fits_22 : decode cX0_fits 22 = .ok (.iload_n 3, 1) := by decide +kernel
theorem dX0_fits_23 : decode cX0_fits 23 = .ok (.iaload, 1) := by decide +kernel
theorem dX0_fits_24 : decode cX0_fits 24 = .ok (.i2l, 1) := by decide +kernel
theorem dX0_fits_25 : decode cX0_fits 25 = .ok (.lcmp, 1) := by decide +kernel
theorem dX0_fits_26 : decode cX0_fits 26 = .ok (.ifCond .ne 7, 3) := by decide +kernel
theorem dX0_fits_29 : decode cX0_fits 29 = .ok (.iconst 1, 1) := by decide +kernel
theorem dX0_fits_30 : decode cX0_fits 30 = .ok (.goto 4, 3) := by decide +kernel
theorem dX0_fits_33 : decode cX0_fits 33 = .ok (.iconst 0, 1) := by decide +kernel
theorem dX0_fits_34 : decode cX0_fits 34 = .ok (.ireturn, 1) := by decide +kernel
set_option maxRecDepth 20000 in
theorem ggX0_howManyFit_X0_fits : GoodIn wsX0_howManyFit wsX0_fits := goodIn_r _ [6, 7, 8, 9, 10, 11] (by decide +kernel) (by decide +kernel)
set_option maxRecDepth 20000 in
theorem gX0_howManyFit_X0_fits : GoodIn wsX0_howManyFit (wsV RX0 22 RX0 yX0_fits wsX0_fits) := goodIn_app (goodIn_of _ (by decide +kernel)) ggX0_howManyFit_X0_fits
theorem dX0_howManyFit_0 : decode cX0_howManyFit 0 = .ok (.iconst 0, 1) := by decide +kernel
theorem dX0_howManyFit_1 : decode cX0_howManyFit 1 = .ok (.istore_n 2, 1) := by decide +kernel
theorem dX0_howManyFit_2 : decode cX0_howManyFit 2 = .ok (.iconst 0, 1) := by decide +kernel
theorem dX0_howManyFit_3 : decode cX0_howManyFit 3 = .ok (.istore_n 3, 1) := by decide +kernel
theorem dX0_howManyFit_4 : decode cX0_howManyFit 4 = .ok (.iload_n 3, 1) := by decide +kernel
theorem dX0_howManyFit_5 : decode cX0_howManyFit 5 = .ok (.aload_n 0, 1) := by decide +kernel
theorem dX0_howManyFit_6 : decode cX0_howManyFit 6 = .ok (.getfield 18, 3) := by decide +kernel
theorem dX0_howManyFit_9 : decode cX0_howManyFit 9 = .ok (.if_icmp .ge 22, 3) := by decide +kernel
theorem dX0_howManyFit_12 : decode cX0_howManyFit 12 = .ok (.aload_n 0, 1) := by decide +kernel
theorem dX0_howManyFit_13 : decode cX0_howManyFit 13 = .ok (.iload_n 1, 1) := by decide +kernel
theorem dX0_howManyFit_14 : decode cX0_howManyFit 14 = .ok (.i2l, 1) := by decide +kernel
theorem dX0_howManyFit_15 : decode cX0_howManyFit 15 = .ok (.iload_n 3, 1) := by decide +kernel
theorem dX0_howManyFit_16 : decode cX0_howManyFit 16 = .ok (.invokevirtual 22, 3) := by decide +kernel
theorem dX0_howManyFit_19 : decode cX0_howManyFit 19 = .ok (.ifCond .eq 6, 3) := by decide +kernel
theorem dX0_howManyFit_22 : decode cX0_howManyFit 22 = .ok (.iinc 2 1, 3) := by decide +kernel
theorem dX0_howManyFit_25 : decode cX0_howManyFit 25 = .ok (.iinc 3 1, 3) := by decide +kernel
theorem dX0_howManyFit_28 : decode cX0_howManyFit 28 = .ok (.goto (-24), 3) := by decide +kernel
theorem dX0_howManyFit_31 : decode cX0_howManyFit 31 = .ok (.iload_n 2, 1) := by decide +kernel
theorem dX0_howManyFit_32 : decode cX0_howManyFit 32 = .ok (.ireturn, 1) := by decide +kernel
set_option maxRecDepth 20000 in
theorem ggX0_leastFitting_X0_fits : GoodIn wsX0_leastFitting wsX0_fits := goodIn_r _ [7, 2, 8, 9, 10, 11] (by decide +kernel) (by decide +kernel)
set_option maxRecDepth 20000 in
theorem gX0_leastFitting_X0_fits : GoodIn wsX0_leastFitting (wsV RX0 22 RX0 yX0_fits wsX0_fits) := goodIn_app (goodIn_of _ (by decide +kernel)) ggX0_leastFitting_X0_fits
theorem dX0_leastFitting_0 : decode cX0_leastFitting 0 = .ok (.lconst 0, 1) := by decide +kernel
theorem dX0_leastFitting_1 : decode cX0_leastFitting 1 = .ok (.lstore_n 1, 1) := by decide +kernel
theorem dX0_leastFitting_2 : decode cX0_leastFitting 2 = .ok (.lconst 1, 1) := by decide +kernel
theorem dX0_leastFitting_3 : decode cX0_leastFitting 3 = .ok (.lstore_n 3, 1) := by decide +kernel
theorem dX0_leastFitting_4 : decode cX0_leastFitting 4 = .ok (.iconst 0, 1) := by decide +kernel
theorem dX0_leastFitting_5 : decode cX0_leastFitting 5 = .ok (.istore 5, 2) := by decide +kernel
theorem dX0_leastFitting_7 : decode cX0_leastFitting 7 = .ok (.iload 5, 2) := by decide +kernel
theorem dX0_leastFitting_9 : decode cX0_leastFitting 9 = .ok (.aload_n 0, 1) := by decide +kernel
theorem dX0_leastFitting_10 : decode cX0_leastFitting 10 = .ok (.getfield 18, 3) := by decide +kernel
theorem dX0_leastFitting_13 : decode cX0_leastFitting 13 = .ok (.if_icmp .ge 55, 3) := by decide +kernel
theorem dX0_leastFitting_16 : decode cX0_leastFitting 16 = .ok (.iconst 0, 1) := by decide +kernel
theorem dX0_leastFitting_17 : decode cX0_leastFitting 17 = .ok (.istore 6, 2) := by decide +kernel
theorem dX0_leastFitting_19 : decode cX0_leastFitting 19 = .ok (.iload 6, 2) := by decide +kernel
theorem dX0_leastFitting_21 : decode cX0_leastFitting 21 = .ok (.aload_n 0, 1) := by decide +kernel
theorem dX0_leastFitting_22 : decode cX0_leastFitting 22 = .ok (.getfield 9, 3) := by decide +kernel
theorem dX0_leastFitting_25 : decode cX0_leastFitting 25 = .ok (.iload 5, 2) := by decide +kernel
theorem dX0_leastFitting_27 : decode cX0_leastFitting 27 = .ok (.iaload, 1) := by decide +kernel
theorem dX0_leastFitting_28 : decode cX0_leastFitting 28 = .ok (.if_icmp .ge 23, 3) := by decide +kernel
theorem dX0_leastFitting_31 : decode cX0_leastFitting 31 = .ok (.aload_n 0, 1) := by decide +kernel
theorem dX0_leastFitting_32 : decode cX0_leastFitting 32 = .ok (.lload_n 1, 1) := by decide +kernel
theorem dX0_leastFitting_33 : decode cX0_leastFitting 33 = .ok (.iload 5, 2) := by decide +kernel
theorem dX0_leastFitting_35 : decode cX0_leastFitting 35 = .ok (.invokevirtual 22, 3) := by decide +kernel
theorem dX0_leastFitting_38 : decode cX0_leastFitting 38 = .ok (.ifCond .ne 13, 3) := by decide +kernel
theorem dX0_leastFitting_41 : decode cX0_leastFitting 41 = .ok (.lload_n 1, 1) := by decide +kernel
theorem dX0_leastFitting_42 : decode cX0_leastFitting 42 = .ok (.lload_n 3, 1) := by decide +kernel
theorem dX0_leastFitting_43 : decode cX0_leastFitting 43 = .ok (.ladd, 1) := by decide +kernel
theorem dX0_leastFitting_44 : decode cX0_leastFitting 44 = .ok (.lstore_n 1, 1) := by decide +kernel
theorem dX0_leastFitting_45 : decode cX0_leastFitting 45 = .ok (.iinc 6 1, 3) := by decide +kernel
theorem dX0_leastFitting_48 : decode cX0_leastFitting 48 = .ok (.goto (-29), 3) := by decide +kernel
theorem dX0_leastFitting_51 : decode cX0_leastFitting 51 = .ok (.lload_n 3, 1) := by decide +kernel
theorem dX0_leastFitting_52 : decode cX0_leastFitting 52 = .ok (.aload_n 0, 1) := by decide +kernel
theorem dX0_leastFitting_53 : decode cX0_leastFitting 53 = .ok (.getfield 9, 3) := by decide +kernel
theorem dX0_leastFitting_56 : decode cX0_leastFitting 56 = .ok (.iload 5, 2) := by decide +kernel
theorem dX0_leastFitting_58 : decode cX0_leastFitting 58 = .ok (.iaload, 1) := by decide +kernel
theorem dX0_leastFitting_59 : decode cX0_leastFitting 59 = .ok (.i2l, 1) := by decide +kernel
theorem dX0_leastFitting_60 : decode cX0_leastFitting 60 = .ok (.lmul, 1) := by decide +kernel
theorem dX0_leastFitting_61 : decode cX0_leastFitting 61 = .ok (.lstore_n 3, 1) := by decide +kernel
theorem dX0_leastFitting_62 : decode cX0_leastFitting 62 = .ok (.iinc 5 1, 3) := by decide +kernel
theorem dX0_leastFitting_65 : decode cX0_leastFitting 65 = .ok (.goto (-58), 3) := by decide +kernel
theorem dX0_leastFitting_68 : decode cX0_leastFitting 68 = .ok (.lload_n 1, 1) := by decide +kernel
theorem dX0_leastFitting_69 : decode cX0_leastFitting 69 = .ok (.lreturn, 1) := by decide +kernel
theorem dX1_init_0 : decode cX1_init 0 = .ok (.aload_n 0, 1) := by decide +kernel
theorem dX1_init_1 : decode cX1_init 1 = .ok (.invokespecial 3, 3) := by decide +kernel
theorem dX1_init_4 : decode cX1_init 4 = .ok (.aload_n 0, 1) := by decide +kernel
theorem dX1_init_5 : decode cX1_init 5 = .ok (.bipush 20, 2) := by decide +kernel
theorem dX1_init_7 : decode cX1_init 7 = .ok (.newarray .int, 2) := by decide +kernel
theorem dX1_init_9 : decode cX1_init 9 = .ok (.putfield 9, 3) := by decide +kernel
theorem dX1_init_12 : decode cX1_init 12 = .ok (.aload_n 0, 1) := by decide +kernel
theorem dX1_init_13 : decode cX1_init 13 = .ok (.bipush 20, 2) := by decide +kernel
theorem dX1_init_15 : decode cX1_init 15 = .ok (.newarray .int, 2) := by decide +kernel
theorem dX1_init_17 : decode cX1_init 17 = .ok (.putfield 15, 3) := by decide +kernel
theorem dX1_init_20 : decode cX1_init 20 = .ok (.aload_n 0, 1) := by decide +kernel
theorem dX1_init_21 : decode cX1_init 21 = .ok (.bipush 20, 2) := by decide +kernel
theorem dX1_init_23 : decode cX1_init 23 = .ok (.newarray .int, 2) := by decide +kernel
theorem dX1_init_25 : decode cX1_init 25 = .ok (.putfield 18, 3) := by decide +kernel
theorem dX1_init_28 : decode cX1_init 28 = .ok (.aload_n 0, 1) := by decide +kernel
theorem dX1_init_29 : decode cX1_init 29 = .ok (.iconst 0, 1) := by decide +kernel
theorem dX1_init_30 : decode cX1_init 30 = .ok (.putfield 21, 3) := by decide +kernel
theorem dX1_init_33 : decode cX1_init 33 = .ok (.aload_n 0, 1) := by decide +kernel
theorem dX1_init_34 : decode cX1_init 34 = .ok (.lconst 0, 1) := by decide +kernel
theorem dX1_init_35 : decode cX1_init 35 = .ok (.putfield 25, 3) := by decide +kernel
theorem dX1_init_38 : decode cX1_init 38 = .ok (.return_, 1) := by decide +kernel
theorem dX1_keep_0 : decode cX1_keep 0 = .ok (.aload_n 0, 1) := by decide +kernel
theorem dX1_keep_1 : decode cX1_keep 1 = .ok (.getfield 21, 3) := by decide +kernel
theorem dX1_keep_4 : decode cX1_keep 4 = .ok (.bipush 20, 2) := by decide +kernel
theorem dX1_keep_6 : decode cX1_keep 6 = .ok (.if_icmp .ge 43, 3) := by decide +kernel
theorem dX1_keep_9 : decode cX1_keep 9 = .ok (.aload_n 0, 1) := by decide +kernel
theorem dX1_keep_10 : decode cX1_keep 10 = .ok (.getfield 9, 3) := by decide +kernel
theorem dX1_keep_13 : decode cX1_keep 13 = .ok (.aload_n 0, 1) := by decide +kernel
theorem dX1_keep_14 : decode cX1_keep 14 = .ok (.getfield 21, 3) := by decide +kernel
theorem dX1_keep_17 : decode cX1_keep 17 = .ok (.iload_n 1, 1) := by decide +kernel
theorem dX1_keep_18 : decode cX1_keep 18 = .ok (.iastore, 1) := by decide +kernel
theorem dX1_keep_19 : decode cX1_keep 19 = .ok (.aload_n 0, 1) := by decide +kernel
theorem dX1_keep_20 : decode cX1_keep 20 = .ok (.getfield 15, 3) := by decide +kernel
theorem dX1_keep_23 : decode cX1_keep 23 = .ok (.aload_n 0, 1) := by decide +kernel
theorem dX1_keep_24 : decode cX1_keep 24 = .ok (.getfield 21, 3) := by decide +kernel
theorem dX1_keep_27 : decode cX1_keep 27 = .ok (.iload_n 2, 1) := by decide +kernel
theorem dX1_keep_28 : decode cX1_keep 28 = .ok (.iastore, 1) := by decide +kernel
theorem dX1_keep_29 : decode cX1_keep 29 = .ok (.aload_n 0, 1) := by decide +kernel
theorem dX1_keep_30 : decode cX1_keep 30 = .ok (.getfield 18, 3) := by decide +kernel
theorem dX1_keep_33 : decode cX1_keep 33 = .ok (.aload_n 0, 1) := by decide +kernel
theorem dX1_keep_34 : decode cX1_keep 34 = .ok (.getfield 21, 3) := by decide +kernel
theorem dX1_keep_37 : decode cX1_keep 37 = .ok (.iload_n 3, 1) := by decide +kernel
theorem dX1_keep_38 : decode cX1_keep 38 = .ok (.iastore, 1) := by decide +kernel
theorem dX1_keep_39 : decode cX1_keep 39 = .ok (.aload_n 0, 1) := by decide +kernel
theorem dX1_keep_40 : decode cX1_keep 40 = .ok (.dup, 1) := by decide +kernel
theorem dX1_keep_41 : decode cX1_keep 41 = .ok (.getfield 21, 3) := by decide +kernel
theorem dX1_keep_44 : decode cX1_keep 44 = .ok (.iconst 1, 1) := by decide +kernel
theorem dX1_keep_45 : decode cX1_keep 45 = .ok (.iadd, 1) := by decide +kernel
theorem dX1_keep_46 : decode cX1_keep 46 = .ok (.putfield 21, 3) := by decide +kernel
theorem dX1_keep_49 : decode cX1_keep 49 = .ok (.return_, 1) := by decide +kernel
theorem dX2_init_0 : decode cX2_init 0 = .ok (.aload_n 0, 1) := by decide +kernel
theorem dX2_init_1 : decode cX2_init 1 = .ok (.invokespecial 3, 3) := by decide +kernel
theorem dX2_init_4 : decode cX2_init 4 = .ok (.aload_n 0, 1) := by decide +kernel
theorem dX2_init_5 : decode cX2_init 5 = .ok (.sipush 300, 3) := by decide +kernel
theorem dX2_init_8 : decode cX2_init 8 = .ok (.newarray .int, 2) := by decide +kernel
theorem dX2_init_10 : decode cX2_init 10 = .ok (.putfield 9, 3) := by decide +kernel
theorem dX2_init_13 : decode cX2_init 13 = .ok (.aload_n 0, 1) := by decide +kernel
theorem dX2_init_14 : decode cX2_init 14 = .ok (.iconst 1, 1) := by decide +kernel
theorem dX2_init_15 : decode cX2_init 15 = .ok (.putfield 15, 3) := by decide +kernel
theorem dX2_init_18 : decode cX2_init 18 = .ok (.aload_n 0, 1) := by decide +kernel
theorem dX2_init_19 : decode cX2_init 19 = .ok (.iconst 0, 1) := by decide +kernel
theorem dX2_init_20 : decode cX2_init 20 = .ok (.putfield 19, 3) := by decide +kernel
theorem dX2_init_23 : decode cX2_init 23 = .ok (.aload_n 0, 1) := by decide +kernel
theorem dX2_init_24 : decode cX2_init 24 = .ok (.iconst 0, 1) := by decide +kernel
theorem dX2_init_25 : decode cX2_init 25 = .ok (.putfield 23, 3) := by decide +kernel
theorem dX2_init_28 : decode cX2_init 28 = .ok (.return_, 1) := by decide +kernel
theorem dX2_renew_0 : decode cX2_renew 0 = .ok (.aload_n 0, 1) := by decide +kernel
theorem dX2_renew_1 : decode cX2_renew 1 = .ok (.iconst 0, 1) := by decide +kernel
theorem dX2_renew_2 : decode cX2_renew 2 = .ok (.putfield 15, 3) := by decide +kernel
theorem dX2_renew_5 : decode cX2_renew 5 = .ok (.aload_n 0, 1) := by decide +kernel
theorem dX2_renew_6 : decode cX2_renew 6 = .ok (.iload_n 1, 1) := by decide +kernel
theorem dX2_renew_7 : decode cX2_renew 7 = .ok (.putfield 19, 3) := by decide +kernel
theorem dX2_renew_10 : decode cX2_renew 10 = .ok (.aload_n 0, 1) := by decide +kernel
theorem dX2_renew_11 : decode cX2_renew 11 = .ok (.iconst 0, 1) := by decide +kernel
theorem dX2_renew_12 : decode cX2_renew 12 = .ok (.iload_n 2, 1) := by decide +kernel
theorem dX2_renew_13 : decode cX2_renew 13 = .ok (.sipush 300, 3) := by decide +kernel
theorem dX2_renew_16 : decode cX2_renew 16 = .ok (.invokestatic 26, 3) := by decide +kernel
theorem dX2_renew_19 : decode cX2_renew 19 = .ok (.invokestatic 32, 3) := by decide +kernel
theorem dX2_renew_22 : decode cX2_renew 22 = .ok (.putfield 23, 3) := by decide +kernel
theorem dX2_renew_25 : decode cX2_renew 25 = .ok (.iconst 0, 1) := by decide +kernel
theorem dX2_renew_26 : decode cX2_renew 26 = .ok (.istore_n 3, 1) := by decide +kernel
theorem dX2_renew_27 : decode cX2_renew 27 = .ok (.iload_n 3, 1) := by decide +kernel
theorem dX2_renew_28 : decode cX2_renew 28 = .ok (.aload_n 0, 1) := by decide +kernel
theorem dX2_renew_29 : decode cX2_renew 29 = .ok (.getfield 23, 3) := by decide +kernel
theorem dX2_renew_32 : decode cX2_renew 32 = .ok (.if_icmp .ge 16, 3) := by decide +kernel
theorem dX2_renew_35 : decode cX2_renew 35 = .ok (.aload_n 0, 1) := by decide +kernel
theorem dX2_renew_36 : decode cX2_renew 36 = .ok (.getfield 9, 3) := by decide +kernel
theorem dX2_renew_39 : decode cX2_renew 39 = .ok (.iload_n 3, 1) := by decide +kernel
theorem dX2_renew_40 : decode cX2_renew 40 = .ok (.iconst 0, 1) := by decide +kernel
theorem dX2_renew_41 : decode cX2_renew 41 = .ok (.iastore, 1) := by decide +kernel
theorem dX2_renew_42 : decode cX2_renew 42 = .ok (.iinc 3 1, 3) := by decide +kernel
theorem dX2_renew_45 : decode cX2_renew 45 = .ok (.goto (-18), 3) := by decide +kernel
theorem dX2_renew_48 : decode cX2_renew 48 = .ok (.return_, 1) := by decide +kernel
theorem dX2_hasItem_0 : decode cX2_hasItem 0 = .ok (.aload_n 0, 1) := by decide +kernel
theorem dX2_hasItem_1 : decode cX2_hasItem 1 = .ok (.getfield 15, 3) := by decide +kernel
theorem dX2_hasItem_4 : decode cX2_hasItem 4 = .ok (.ifCond .ne 19, 3) := by decide +kernel
theorem dX2_hasItem_7 : decode cX2_hasItem 7 = .ok (.iload_n 1, 1) := by decide +kernel
theorem dX2_hasItem_8 : decode cX2_hasItem 8 = .ok (.ifCond .lt 15, 3) := by decide +kernel
theorem dX2_hasItem_11 : decode cX2_hasItem 11 = .ok (.iload_n 1, 1) := by decide +kernel
theorem dX2_hasItem_12 : decode cX2_hasItem 12 = .ok (.aload_n 0, 1) := by decide +kernel
theorem dX2_hasItem_13 : decode cX2_hasItem 13 = .ok (.getfield 23, 3) := by decide +kernel
theorem dX2_hasItem_16 : decode cX2_hasItem 16 = .ok (.if_icmp .ge 7, 3) := by decide +kernel
theorem dX2_hasItem_19 : decode cX2_hasItem 19 = .ok (.iconst 1, 1) := by decide +kernel
theorem dX2_hasItem_20 : decode cX2_hasItem 20 = .ok (.goto 4, 3) := by decide +kernel
theorem dX2_hasItem_23 : decode cX2_hasItem 23 = .ok (.iconst 0, 1) := by decide +kernel
theorem dX2_hasItem_24 : decode cX2_hasItem 24 = .ok (.ireturn, 1) := by decide +kernel
set_option maxRecDepth 20000 in
theorem ggX2_troubleAt_X2_hasItem : GoodIn wsX2_troubleAt wsX2_hasItem := goodIn_r _ [7, 1, 8, 9, 10, 11, 12] (by decide +kernel) (by decide +kernel)
set_option maxRecDepth 20000 in
theorem gX2_troubleAt_X2_hasItem : GoodIn wsX2_troubleAt (wsV RX2 35 RX2 yX2_hasItem wsX2_hasItem) := goodIn_app (goodIn_of _ (by decide +kernel)) ggX2_troubleAt_X2_hasItem
theorem dX2_troubleAt_0 : decode cX2_troubleAt 0 = .ok (.aload_n 0, 1) := by decide +kernel
theorem dX2_troubleAt_1 : decode cX2_troubleAt 1 = .ok (.getfield 15, 3) := by decide +kernel
theorem dX2_troubleAt_4 : decode cX2_troubleAt 4 = .ok (.ifCond .eq 5, 3) := by decide +kernel
theorem dX2_troubleAt_7 : decode cX2_troubleAt 7 = .ok (.iconst 1, 1) := by decide +kernel
theorem dX2_troubleAt_8 : decode cX2_troubleAt 8 = .ok (.ireturn, 1) := by decide +kernel
theorem dX2_troubleAt_9 : decode cX2_troubleAt 9 = .ok (.aload_n 0, 1) := by decide +kernel
theorem dX2_troubleAt_10 : decode cX2_troubleAt 10 = .ok (.getfield 19, 3) := by decide +kernel
theorem dX2_troubleAt_13 : decode cX2_troubleAt 13 = .ok (.iload_n 1, 1) := by decide +kernel
theorem dX2_troubleAt_14 : decode cX2_troubleAt 14 = .ok (.if_icmp .eq 5, 3) := by decide +kernel
theorem dX2_troubleAt_17 : decode cX2_troubleAt 17 = .ok (.iconst 3, 1) := by decide +kernel
theorem dX2_troubleAt_18 : decode cX2_troubleAt 18 = .ok (.ireturn, 1) := by decide +kernel
theorem dX2_troubleAt_19 : decode cX2_troubleAt 19 = .ok (.aload_n 0, 1) := by decide +kernel
theorem dX2_troubleAt_20 : decode cX2_troubleAt 20 = .ok (.iload_n 2, 1) := by decide +kernel
theorem dX2_troubleAt_21 : decode cX2_troubleAt 21 = .ok (.invokevirtual 35, 3) := by decide +kernel
theorem dX2_troubleAt_24 : decode cX2_troubleAt 24 = .ok (.ifCond .eq 7, 3) := by decide +kernel
theorem dX2_troubleAt_27 : decode cX2_troubleAt 27 = .ok (.iconst 0, 1) := by decide +kernel
theorem dX2_troubleAt_28 : decode cX2_troubleAt 28 = .ok (.goto 4, 3) := by decide +kernel
theorem dX2_troubleAt_31 : decode cX2_troubleAt 31 = .ok (.iconst 2, 1) := by decide +kernel
theorem dX2_troubleAt_32 : decode cX2_troubleAt 32 = .ok (.ireturn, 1) := by decide +kernel
theorem dX2_hasSpan_0 : decode cX2_hasSpan 0 = .ok (.iload_n 1, 1) := by decide +kernel
theorem dX2_hasSpan_1 : decode cX2_hasSpan 1 = .ok (.ifCond .lt 21, 3) := by decide +kernel
theorem dX2_hasSpan_4 : decode cX2_hasSpan 4 = .ok (.iload_n 2, 1) := by decide +kernel
theorem dX2_hasSpan_5 : decode cX2_hasSpan 5 = .ok (.ifCond .lt 17, 3) := by decide +kernel
theorem dX2_hasSpan_8 : decode cX2_hasSpan 8 = .ok (.iload_n 1, 1) := by decide +kernel
theorem dX2_hasSpan_9 : decode cX2_hasSpan 9 = .ok (.aload_n 0, 1) := by decide +kernel
theorem dX2_hasSpan_10 : decode cX2_hasSpan 10 = .ok (.getfield 23, 3) := by decide +kernel
theorem dX2_hasSpan_13 : decode cX2_hasSpan 13 = .ok (.iload_n 2, 1) := by decide +kernel
theorem dX2_hasSpan_14 : decode cX2_hasSpan 14 = .ok (.isub, 1) := by decide +kernel
theorem dX2_hasSpan_15 : decode cX2_hasSpan 15 = .ok (.if_icmp .gt 7, 3) := by decide +kernel
theorem dX2_hasSpan_18 : decode cX2_hasSpan 18 = .ok (.iconst 1, 1) := by decide +kernel
theorem dX2_hasSpan_19 : decode cX2_hasSpan 19 = .ok (.goto 4, 3) := by decide +kernel
theorem dX2_hasSpan_22 : decode cX2_hasSpan 22 = .ok (.iconst 0, 1) := by decide +kernel
theorem dX2_hasSpan_23 : decode cX2_hasSpan 23 = .ok (.ireturn, 1) := by decide +kernel
set_option maxRecDepth 20000 in
theorem ggX2_itemOrZero_X2_hasItem : GoodIn wsX2_itemOrZero wsX2_hasItem := goodIn_r _ [6, 7, 8, 9, 10, 11, 12] (by decide +kernel) (by decide +kernel)
set_option maxRecDepth 20000 in
theorem gX2_itemOrZero_X2_hasItem : GoodIn wsX2_itemOrZero (wsV RX2 35 RX2 yX2_hasItem wsX2_hasItem) := goodIn_app (goodIn_of _ (by decide +kernel)) ggX2_itemOrZero_X2_hasItem
theorem dX2_itemOrZero_0 : decode cX2_itemOrZero 0 = .ok (.aload_n 0, 1) := by decide +kernel
theorem dX2_itemOrZero_1 : decode cX2_itemOrZero 1 = .ok (.iload_n 1, 1) := by decide +kernel
theorem dX2_itemOrZero_2 : decode cX2_itemOrZero 2 = .ok (.invokevirtual 35, 3) := by decide +kernel
theorem dX2_itemOrZero_5 : decode cX2_itemOrZero 5 = .ok (.ifCond .eq 12, 3) := by decide +kernel
theorem dX2_itemOrZero_8 : decode cX2_itemOrZero 8 = .ok (.aload_n 0, 1) := by decide +kernel
theorem dX2_itemOrZero_9 : decode cX2_itemOrZero 9 = .ok (.getfield 9, 3) := by decide +kernel
theorem dX2_itemOrZero_12 : decode cX2_itemOrZero 12 = .ok (.iload_n 1, 1) := by decide +kernel
theorem dX2_itemOrZero_13 : decode cX2_itemOrZero 13 = .ok (.iaload, 1) := by decide +kernel
theorem dX2_itemOrZero_14 : decode cX2_itemOrZero 14 = .ok (.goto 4, 3) := by decide +kernel
theorem dX2_itemOrZero_17 : decode cX2_itemOrZero 17 = .ok (.iconst 0, 1) := by decide +kernel
theorem dX2_itemOrZero_18 : decode cX2_itemOrZero 18 = .ok (.ireturn, 1) := by decide +kernel
set_option maxRecDepth 20000 in
theorem ggX2_keep_X2_hasItem : GoodIn wsX2_keep wsX2_hasItem := goodIn_r _ [6, 7, 8, 14, 15, 16, 17] (by decide +kernel) (by decide +kernel)
set_option maxRecDepth 20000 in
theorem gX2_keep_X2_hasItem : GoodIn wsX2_keep (wsV RX2 35 RX2 yX2_hasItem wsX2_hasItem) := goodIn_app (goodIn_of _ (by decide +kernel)) ggX2_keep_X2_hasItem
set_option maxRecDepth 20000 in
theorem ggX2_keep_X2_lowestBits : GoodIn wsX2_keep wsX2_lowestBits := goodIn_r _ [12, 13, 14, 15, 16, 17] (by decide +kernel) (by decide +kernel)
set_option maxRecDepth 20000 in
theorem gX2_keep_X2_lowestBits : GoodIn wsX2_keep (wsV RX2 39 RX2 yX2_lowestBits wsX2_lowestBits) := goodIn_app (goodIn_of _ (by decide +kernel)) ggX2_keep_X2_lowestBits
theorem dX2_keep_0 : decode cX2_keep 0 = .ok (.aload_n 0, 1) := by decide +kernel
theorem dX2_keep_1 : decode cX2_keep 1 = .ok (.iload_n 1, 1) := by decide +kernel
theorem dX2_keep_2 : decode cX2_keep 2 = .ok (.invokevirtual 35, 3) := by decide +kernel
theorem dX2_keep_5 : decode cX2_keep 5 = .ok (.ifCond .eq 14, 3) := by decide +kernel
theorem dX2_keep_8 : decode cX2_keep 8 = .ok (.aload_n 0, 1) := by decide +kernel
theorem dX2_keep_9 : decode cX2_keep 9 = .ok (.getfield 9, 3) := by decide +kernel
theorem dX2_keep_12 : decode cX2_keep 12 = .ok (.iload_n 1, 1) := by decide +kernel
theorem dX2_keep_13 : decode cX2_keep 13 = .ok (.aload_n 0, 1) := by decide +kernel
theorem dX2_keep_14 : decode cX2_keep 14 = .ok (.iload_n 2, 1) := by decide +kernel
theorem dX2_keep_15 : decode cX2_keep 15 = .ok (.invokevirtual 39, 3) := by decide +kernel
theorem dX2_keep_18 : decode cX2_keep 18 = .ok (.iastore, 1) := by decide +kernel
theorem dX2_keep_19 : decode cX2_keep 19 = .ok (.return_, 1) := by decide +kernel
theorem dX2_lowestBits_0 : decode cX2_lowestBits 0 = .ok (.aload_n 0, 1) := by decide +kernel
theorem dX2_lowestBits_1 : decode cX2_lowestBits 1 = .ok (.getfield 19, 3) := by decide +kernel
theorem dX2_lowestBits_4 : decode cX2_lowestBits 4 = .ok (.ifCond .ne 6, 3) := by decide +kernel
theorem dX2_lowestBits_7 : decode cX2_lowestBits 7 = .ok (.iload_n 1, 1) := by decide +kernel
theorem dX2_lowestBits_8 : decode cX2_lowestBits 8 = .ok (.i2b, 1) := by decide +kernel
theorem dX2_lowestBits_9 : decode cX2_lowestBits 9 = .ok (.ireturn, 1) := by decide +kernel
theorem dX2_lowestBits_10 : decode cX2_lowestBits 10 = .ok (.aload_n 0, 1) := by decide +kernel
theorem dX2_lowestBits_11 : decode cX2_lowestBits 11 = .ok (.getfield 19, 3) := by decide +kernel
theorem dX2_lowestBits_14 : decode cX2_lowestBits 14 = .ok (.iconst 1, 1) := by decide +kernel
theorem dX2_lowestBits_15 : decode cX2_lowestBits 15 = .ok (.if_icmp .ne 8, 3) := by decide +kernel
theorem dX2_lowestBits_18 : decode cX2_lowestBits 18 = .ok (.iload_n 1, 1) := by decide +kernel
theorem dX2_lowestBits_19 : decode cX2_lowestBits 19 = .ok (.i2s, 1) := by decide +kernel
theorem dX2_lowestBits_20 : decode cX2_lowestBits 20 = .ok (.goto 4, 3) := by decide +kernel
theorem dX2_lowestBits_23 : decode cX2_lowestBits 23 = .ok (.iload_n 1, 1) := by decide +kernel
theorem dX2_lowestBits_24 : decode cX2_lowestBits 24 = .ok (.ireturn, 1) := by decide +kernel
theorem dX3_init_0 : decode cX3_init 0 = .ok (.aload_n 0, 1) := by decide +kernel
theorem dX3_init_1 : decode cX3_init 1 = .ok (.invokespecial 3, 3) := by decide +kernel
theorem dX3_init_4 : decode cX3_init 4 = .ok (.aload_n 0, 1) := by decide +kernel
theorem dX3_init_5 : decode cX3_init 5 = .ok (.bipush 127, 2) := by decide +kernel
theorem dX3_init_7 : decode cX3_init 7 = .ok (.newarray .int, 2) := by decide +kernel
theorem dX3_init_9 : decode cX3_init 9 = .ok (.putfield 9, 3) := by decide +kernel
theorem dX3_init_12 : decode cX3_init 12 = .ok (.aload_n 0, 1) := by decide +kernel
theorem dX3_init_13 : decode cX3_init 13 = .ok (.iconst 0, 1) := by decide +kernel
theorem dX3_init_14 : decode cX3_init 14 = .ok (.putfield 15, 3) := by decide +kernel
theorem dX3_init_17 : decode cX3_init 17 = .ok (.return_, 1) := by decide +kernel
theorem dX3_isNone_0 : decode cX3_isNone 0 = .ok (.aload_n 0, 1) := by decide +kernel
theorem dX3_isNone_1 : decode cX3_isNone 1 = .ok (.getfield 15, 3) := by decide +kernel
theorem dX3_isNone_4 : decode cX3_isNone 4 = .ok (.iconst 1, 1) := by decide +kernel
theorem dX3_isNone_5 : decode cX3_isNone 5 = .ok (.if_icmp .ge 7, 3) := by decide +kernel
theorem dX3_isNone_8 : decode cX3_isNone 8 = .ok (.iconst 1, 1) := by decide +kernel
theorem dX3_isNone_9 : decode cX3_isNone 9 = .ok (.goto 4, 3) := by decide +kernel
theorem dX3_isNone_12 : decode cX3_isNone 12 = .ok (.iconst 0, 1) := by decide +kernel
theorem dX3_isNone_13 : decode cX3_isNone 13 = .ok (.ireturn, 1) := by decide +kernel
set_option maxRecDepth 20000 in
theorem ggX3_signAt_J9_floorMod_7cf53 : GoodIn wsX3_signAt wsJ9_floorMod_7cf53 := goodIn_r _ [6] (by decide +kernel) (by decide +kernel)
set_option maxRecDepth 20000 in
theorem gX3_signAt_J9_floorMod_7cf53 : GoodIn wsX3_signAt (va_wsS RX3 19 yJ9_floorMod_7cf53 wsJ9_floorMod_7cf53) := goodIn_app (goodIn_of _ (by decide +kernel)) ggX3_signAt_J9_floorMod_7cf53
theorem dX3_signAt_0 : decode cX3_signAt 0 = .ok (.aload_n 0, 1) := by decide +kernel
theorem dX3_signAt_1 : decode cX3_signAt 1 = .ok (.getfield 15, 3) := by decide +kernel
theorem dX3_signAt_4 : decode cX3_signAt 4 = .ok (.iconst 1, 1) := by decide +kernel
theorem dX3_signAt_5 : decode cX3_signAt 5 = .ok (.if_icmp .ge 7, 3) := by decide +kernel
theorem dX3_signAt_8 : decode cX3_signAt 8 = .ok (.iconst 0, 1) := by decide +kernel
theorem dX3_signAt_9 : decode cX3_signAt 9 = .ok (.goto 16, 3) := by decide +kernel
theorem dX3_signAt_12 : decode cX3_signAt 12 = .ok (.aload_n 0, 1) := by decide +kernel
theorem dX3_signAt_13 : decode cX3_signAt 13 = .ok (.getfield 9, 3) := by decide +kernel
theorem dX3_signAt_16 : decode cX3_signAt 16 = .ok (.iload_n 1, 1) := by decide +kernel
theorem dX3_signAt_17 : decode cX3_signAt 17 = .ok (.aload_n 0, 1) := by decide +kernel
theorem dX3_signAt_18 : decode cX3_signAt 18 = .ok (.getfield 15, 3) := by decide +kernel
theorem dX3_signAt_21 : decode cX3_signAt 21 = .ok (.invokestatic 19, 3) := by decide +kernel
theorem dX3_signAt_24 : decode cX3_signAt 24 = .ok (.iaload, 1) := by decide +kernel
theorem dX3_signAt_25 : decode cX3_signAt 25 = .ok (.ireturn, 1) := by decide +kernel
set_option maxRecDepth 20000 in
theorem ggX3_fillByRegister_X6_stepped : GoodIn wsX3_fillByRegister wsX6_stepped := goodIn_r _ [5, 6, 7, 8, 9, 10, 11, 12] (by decide +kernel) (by decide +kernel)
set_option maxRecDepth 20000 in
theorem gX3_fillByRegister_X6_stepped_n25 : GoodIn wsX3_fillByRegister (wsX6_stepped) := ggX3_fillByRegister_X6_stepped
theorem dX3_fillByRegister_0 : decode cX3_fillByRegister 0 = .ok (.aload_n 0, 1) := by decide +kernel
theorem dX3_fillByRegister_1 : decode cX3_fillByRegister 1 = .ok (.iconst 1, 1) := by decide +kernel
theorem dX3_fillByRegister_2 : decode cX3_fillByRegister 2 = .ok (.iload_n 1, 1) := by decide +kernel
theorem dX3_fillByRegister_3 : decode cX3_fillByRegister 3 = .ok (.ishl, 1) := by decide +kernel
theorem dX3_fillByRegister_4 : decode cX3_fillByRegister 4 = .ok (.iconst 1, 1) := by decide +kernel
theorem dX3_fillByRegister_5 : decode cX3_fillByRegister 5 = .ok (.isub, 1) := by decide +kernel
theorem dX3_fillByRegister_6 : decode cX3_fillByRegister 6 = .ok (.putfield 15, 3) := by decide +kernel
theorem dX3_fillByRegister_9 : decode cX3_fillByRegister 9 = .ok (.iload_n 3, 1) := by decide +kernel
theorem dX3_fillByRegister_10 : decode cX3_fillByRegister 10 = .ok (.istore 4, 2) := by decide +kernel
theorem dX3_fillByRegister_12 : decode cX3_fillByRegister 12 = .ok (.iconst 0, 1) := by decide +kernel
theorem dX3_fillByRegister_13 : decode cX3_fillByRegister 13 = .ok (.istore 5, 2) := by decide +kernel
theorem dX3_fillByRegister_15 : decode cX3_fillByRegister 15 = .ok (.iload 5, 2) := by decide +kernel
theorem dX3_fillByRegister_17 : decode cX3_fillByRegister 17 = .ok (.aload_n 0, 1) := by decide +kernel
theorem dX3_fillByRegister_18 : decode cX3_fillByRegister 18 = .ok (.getfield 15, 3) := by decide +kernel
theorem dX3_fillByRegister_21 : decode cX3_fillByRegister 21 = .ok (.if_icmp .ge 38, 3) := by decide +kernel
theorem dX3_fillByRegister_24 : decode cX3_fillByRegister 24 = .ok (.aload_n 0, 1) := by decide +kernel
theorem dX3_fillByRegister_25 : decode cX3_fillByRegister 25 = .ok (.getfield 9, 3) := by decide +kernel
theorem dX3_fillByRegister_28 : decode cX3_fillByRegister 28 = .ok (.iload 5, 2) := by decide +kernel
theorem dX3_fillByRegister_30 : decode cX3_fillByRegister 30 = .ok (.iload 4, 2) := by decide +kernel
theorem dX3_fillByRegister_32 : decode cX3_fillByRegister 32 = .ok (.iconst 1, 1) := by decide +kernel
theorem dX3_fillByRegister_33 : decode cX3_fillByRegister 33 = .ok (.iand, 1) := by decide +kernel
theorem dX3_fillByRegister_34 : decode cX3_fillByRegister 34 = .ok (.iconst 1, 1) := by decide +kernel
theorem dX3_fillByRegister_35 : decode cX3_fillByRegister 35 = .ok (.if_icmp .ne 7, 3) := by decide +kernel
theorem dX3_fillByRegister_38 : decode cX3_fillByRegister 38 = .ok (.iconst (-1), 1) := by decide +kernel
theorem dX3_fillByRegister_39 : decode cX3_fillByRegister 39 = .ok (.goto 4, 3) := by decide +kernel
theorem dX3_fillByRegister_42 : decode cX3_fillByRegister 42 = .ok (.iconst 1, 1) := by decide +kernel
theorem dX3_fillByRegister_43 : decode cX3_fillByRegister 43 = .ok (.iastore, 1) := by decide +kernel
theorem dX3_fillByRegister_44 : decode cX3_fillByRegister 44 = .ok (.iload_n 1, 1) := by decide +kernel
theorem dX3_fillByRegister_45 : decode cX3_fillByRegister 45 = .ok (.iload_n 2, 1) := by decide +kernel
theorem dX3_fillByRegister_46 : decode cX3_fillByRegister 46 = .ok (.iload 4, 2) := by decide +kernel
theorem dX3_fillByRegister_48 : decode cX3_fillByRegister 48 = .ok (.invokestatic 25, 3) := by decide +kernel
theorem dX3_fillByRegister_51 : decode cX3_fillByRegister 51 = .ok (.istore 4, 2) := by decide +kernel
theorem dX3_fillByRegister_53 : decode cX3_fillByRegister 53 = .ok (.iinc 5 1, 3) := by decide +kernel
theorem dX3_fillByRegister_56 : decode cX3_fillByRegister 56 = .ok (.goto (-41), 3) := by decide +kernel
theorem dX3_fillByRegister_59 : decode cX3_fillByRegister 59 = .ok (.return_, 1) := by decide +kernel
theorem dX3_fillBySignsOf_0 : decode cX3_fillBySignsOf 0 = .ok (.aload_n 0, 1) := by decide +kernel
theorem dX3_fillBySignsOf_1 : decode cX3_fillBySignsOf 1 = .ok (.iload_n 2, 1) := by decide +kernel
theorem dX3_fillBySignsOf_2 : decode cX3_fillBySignsOf 2 = .ok (.aload_n 1, 1) := by decide +kernel
theorem dX3_fillBySignsOf_3 : decode cX3_fillBySignsOf 3 = .ok (.arraylength, 1) := by decide +kernel
theorem dX3_fillBySignsOf_4 : decode cX3_fillBySignsOf 4 = .ok (.bipush 127, 2) := by decide +kernel
theorem dX3_fillBySignsOf_6 : decode cX3_fillBySignsOf 6 = .ok (.invokestatic 29, 3) := by decide +kernel
theorem dX3_fillBySignsOf_9 : decode cX3_fillBySignsOf 9 = .ok (.invokestatic 29, 3) := by decide +kernel
theorem dX3_fillBySignsOf_12 : decode cX3_fillBySignsOf 12 = .ok (.putfield 15, 3) := by decide +kernel
theorem dX3_fillBySignsOf_15 : decode cX3_fillBySignsOf 15 = .ok (.iconst 0, 1) := by decide +kernel
theorem dX3_fillBySignsOf_16 : decode cX3_fillBySignsOf 16 = .ok (.istore_n 3, 1) := by decide +kernel
theorem dX3_fillBySignsOf_17 : decode cX3_fillBySignsOf 17 = .ok (.iload_n 3, 1) := by decide +kernel
theorem dX3_fillBySignsOf_18 : decode cX3_fillBySignsOf 18 = .ok (.aload_n 0, 1) := by decide +kernel
theorem dX3_fillBySignsOf_19 : decode cX3_fillBySignsOf 19 = .ok (.getfield 15, 3) := by decide +kernel
theorem dX3_fillBySignsOf_22 : decode cX3_fillBySignsOf 22 = .ok (.if_icmp .ge 26, 3) := by decide +kernel
theorem dX3_fillBySignsOf_25 : decode cX3_fillBySignsOf 25 = .ok (.aload_n 0, 1) := by decide +kernel
theorem dX3_fillBySignsOf_26 : decode cX3_fillBySignsOf 26 = .ok (.getfield 9, 3) := by decide +kernel
theorem dX3_fillBySignsOf_29 : decode cX3_fillBySignsOf 29 = .ok (.iload_n 3, 1) := by decide +kernel
theorem dX3_fillBySignsOf_30 : decode cX3_fillBySignsOf 30 = .ok (.aload_n 1, 1) := by decide +kernel
theorem dX3_fillBySignsOf_31 : decode cX3_fillBySignsOf 31 = .ok (.iload_n 3, 1) := by decide +kernel
theorem dX3_fillBySignsOf_32 : decode cX3_fillBySignsOf 32 = .ok (.iaload, 1) := by decide +kernel
theorem dX3_fillBySignsOf_33 : decode cX3_fillBySignsOf 33 = .ok (.ifCond .ge 7, 3) := by decide +kernel
theorem dX3_fillBySignsOf_36 : decode cX3_fillBySignsOf 36 = .ok (.iconst (-1), 1) := by decide +kernel
theorem dX3_fillBySignsOf_37 : decode cX3_fillBySignsOf 37 = .ok (.goto 4, 3) := by decide +kernel
theorem dX3_fillBySignsOf_40 : decode cX3_fillBySignsOf 40 = .ok (.iconst 1, 1) := by decide +kernel
theorem dX3_fillBySignsOf_41 : decode cX3_fillBySignsOf 41 = .ok (.iastore, 1) := by decide +kernel
theorem dX3_fillBySignsOf_42 : decode cX3_fillBySignsOf 42 = .ok (.iinc 3 1, 3) := by decide +kernel
theorem dX3_fillBySignsOf_45 : decode cX3_fillBySignsOf 45 = .ok (.goto (-28), 3) := by decide +kernel
theorem dX3_fillBySignsOf_48 : decode cX3_fillBySignsOf 48 = .ok (.return_, 1) := by decide +kernel
set_option maxRecDepth 20000 in
theorem ggX3_sumOver_J9_floorMod_7cf53 : GoodIn wsX3_sumOver wsJ9_floorMod_7cf53 := goodIn_r _ [6] (by decide +kernel) (by decide +kernel)
set_option maxRecDepth 20000 in
theorem gX3_sumOver_J9_floorMod_7cf53 : GoodIn wsX3_sumOver (va_wsS RX3 19 yJ9_floorMod_7cf53 wsJ9_floorMod_7cf53) := goodIn_app (goodIn_of _ (by decide +kernel)) ggX3_sumOver_J9_floorMod_7cf53
theorem dX3_sumOver_0 : decode cX3_sumOver 0 = .ok (.aload_n 0, 1) := by decide +kernel
theorem dX3_sumOver_1 : decode cX3_sumOver 1 = .ok (.getfield 15, 3) := by decide +kernel
theorem dX3_sumOver_4 : decode cX3_sumOver 4 = .ok (.iconst 1, 1) := by decide +kernel
theorem dX3_sumOver_5 : decode cX3_sumOver 5 = .ok (.if_icmp .ge 5, 3) := by decide +kernel
theorem dX3_sumOver_8 : decode cX3_sumOver 8 = .ok (.iconst 0, 1) := by decide +kernel
theorem dX3_sumOver_9 : decode cX3_sumOver 9 = .ok (.ireturn, 1) := by decide +kernel
theorem dX3_sumOver_10 : decode cX3_sumOver 10 = .ok (.iconst 0, 1) := by decide +kernel
theorem dX3_sumOver_11 : decode cX3_sumOver 11 = .ok (.istore_n 3, 1) := by decide +kernel
theorem dX3_sumOver_12 : decode cX3_sumOver 12 = .ok (.iload_n 2, 1) := by decide +kernel
theorem dX3_sumOver_13 : decode cX3_sumOver 13 = .ok (.aload_n 0, 1) := by decide +kernel
theorem dX3_sumOver_14 : decode cX3_sumOver 14 = .ok (.getfield 15, 3) := by decide +kernel
theorem dX3_sumOver_17 : decode cX3_sumOver 17 = .ok (.invokestatic 19, 3) := by decide +kernel
theorem dX3_sumOver_20 : decode cX3_sumOver 20 = .ok (.istore 4, 2) := by decide +kernel
theorem dX3_sumOver_22 : decode cX3_sumOver 22 = .ok (.iconst 0, 1) := by decide +kernel
theorem dX3_sumOver_23 : decode cX3_sumOver 23 = .ok (.istore 5, 2) := by decide +kernel
theorem dX3_sumOver_25 : decode cX3_sumOver 25 = .ok (.iload 5, 2) := by decide +kernel
theorem dX3_sumOver_27 : decode cX3_sumOver 27 = .ok (.aload_n 0, 1) := by decide +kernel
theorem dX3_sumOver_28 : decode cX3_sumOver 28 = .ok (.getfield 15, 3) := by decide +kernel
theorem dX3_sumOver_31 : decode cX3_sumOver 31 = .ok (.if_icmp .ge 52, 3) := by decide +kernel
theorem dX3_sumOver_34 : decode cX3_sumOver 34 = .ok (.iload 5, 2) := by decide +kernel
theorem dX3_sumOver_36 : decode cX3_sumOver 36 = .ok (.aload_n 1, 1) := by decide +kernel
theorem dX3_sumOver_37 : decode cX3_sumOver 37 = .ok (.arraylength, 1) := by decide +kernel
theorem dX3_sumOver_38 : decode cX3_sumOver 38 = .ok (.if_icmp .ge 45, 3) := by decide +kernel
theorem dX3_sumOver_41 : decode cX3_sumOver 41 = .ok (.iload_n 3, 1) := by decide +kernel
theorem dX3_sumOver_42 : decode cX3_sumOver 42 = .ok (.aload_n 0, 1) := by decide +kernel
theorem dX3_sumOver_43 : decode cX3_sumOver 43 = .ok (.getfield 9, 3) := by decide +kernel
theorem dX3_sumOver_46 : decode cX3_sumOver 46 = .ok (.iload 4, 2) := by decide +kernel
theorem dX3_sumOver_48 : decode cX3_sumOver 48 = .ok (.iaload, 1) := by decide +kernel
theorem dX3_sumOver_49 : decode cX3_sumOver 49 = .ok (.aload_n 1, 1) := by decide +kernel
theorem dX3_sumOver_50 : decode cX3_sumOver 50 = .ok (.iload 5, 2) := by decide +kernel
theorem dX3_sumOver_52 : decode cX3_sumOver 52 = .ok (.iaload, 1) := by decide +kernel
theorem dX3_sumOver_53 : decode cX3_sumOver 53 = .ok (.imul, 1) := by decide +kernel
theorem dX3_sumOver_54 : decode cX3_sumOver 54 = .ok (.iadd, 1) := by decide +kernel
theorem dX3_sumOver_55 : decode cX3_sumOver 55 = .ok (.istore_n 3, 1) := by decide +kernel
theorem dX3_sumOver_56 : decode cX3_sumOver 56 = .ok (.iload 4, 2) := by decide +kernel
theorem dX3_sumOver_58 : decode cX3_sumOver 58 = .ok (.iconst 1, 1) := by decide +kernel
theorem dX3_sumOver_59 : decode cX3_sumOver 59 = .ok (.iadd, 1) := by decide +kernel
theorem dX3_sumOver_60 : decode cX3_sumOver 60 = .ok (.aload_n 0, 1) := by decide +kernel
theorem dX3_sumOver_61 : decode cX3_sumOver 61 = .ok (.getfield 15, 3) := by decide +kernel
theorem dX3_sumOver_64 : decode cX3_sumOver 64 = .ok (.if_icmp .ge 10, 3) := by decide +kernel
theorem dX3_sumOver_67 : decode cX3_sumOver 67 = .ok (.iload 4, 2) := by decide +kernel
theorem dX3_sumOver_69 : decode cX3_sumOver 69 = .ok (.iconst 1, 1) := by decide +kernel
theorem dX3_sumOver_70 : decode cX3_sumOver 70 = .ok (.iadd, 1) := by decide +kernel
theorem dX3_sumOver_71 : decode cX3_sumOver 71 = .ok (.goto 4, 3) := by decide +kernel
theorem dX3_sumOver_74 : decode cX3_sumOver 74 = .ok (.iconst 0, 1) := by decide +kernel
theorem dX3_sumOver_75 : decode cX3_sumOver 75 = .ok (.istore 4, 2) := by decide +kernel
theorem dX3_sumOver_77 : decode cX3_sumOver 77 = .ok (.iinc 5 1, 3) := by decide +kernel
theorem dX3_sumOver_80 : decode cX3_sumOver 80 = .ok (.goto (-55), 3) := by decide +kernel
theorem dX3_sumOver_83 : decode cX3_sumOver 83 = .ok (.iload_n 3, 1) := by decide +kernel
theorem dX3_sumOver_84 : decode cX3_sumOver 84 = .ok (.ireturn, 1) := by decide +kernel
set_option maxRecDepth 20000 in
theorem ggX3_takeOff_X3_signAt : GoodIn wsX3_takeOff wsX3_signAt := goodIn_r _ [6, 1, 7, 8, 9, 10, 11, 12, 13] (by decide +kernel) (by decide +kernel)
set_option maxRecDepth 20000 in
theorem gX3_takeOff_X3_signAt : GoodIn wsX3_takeOff (wsV RX3 32 RX3 yX3_signAt wsX3_signAt) := goodIn_app (goodIn_of _ (by decide +kernel)) ggX3_takeOff_X3_signAt
theorem dX3_takeOff_0 : decode cX3_takeOff 0 = .ok (.iconst 0, 1) := by decide +kernel
theorem dX3_takeOff_1 : decode cX3_takeOff 1 = .ok (.istore 4, 2) := by decide +kernel
theorem dX3_takeOff_3 : decode cX3_takeOff 3 = .ok (.iload 4, 2) := by decide +kernel
theorem dX3_takeOff_5 : decode cX3_takeOff 5 = .ok (.aload_n 0, 1) := by decide +kernel
theorem dX3_takeOff_6 : decode cX3_takeOff 6 = .ok (.getfield 15, 3) := by decide +kernel
theorem dX3_takeOff_9 : decode cX3_takeOff 9 = .ok (.if_icmp .ge 33, 3) := by decide +kernel
theorem dX3_takeOff_12 : decode cX3_takeOff 12 = .ok (.iload 4, 2) := by decide +kernel
theorem dX3_takeOff_14 : decode cX3_takeOff 14 = .ok (.aload_n 1, 1) := by decide +kernel
theorem dX3_takeOff_15 : decode cX3_takeOff 15 = .ok (.arraylength, 1) := by decide +kernel
theorem dX3_takeOff_16 : decode cX3_takeOff 16 = .ok (.if_icmp .ge 26, 3) := by decide +kernel
theorem dX3_takeOff_19 : decode cX3_takeOff 19 = .ok (.aload_n 1, 1) := by decide +kernel
theorem dX3_takeOff_20 : decode cX3_takeOff 20 = .ok (.iload 4, 2) := by decide +kernel
theorem dX3_takeOff_22 : decode cX3_takeOff 22 = .ok (.dup2, 1) := by decide +kernel
theorem dX3_takeOff_23 : decode cX3_takeOff 23 = .ok (.iaload, 1) := by decide +kernel
theorem dX3_takeOff_24 : decode cX3_takeOff 24 = .ok (.iload_n 3, 1) := by decide +kernel
theorem dX3_takeOff_25 : decode cX3_takeOff 25 = .ok (.aload_n 0, 1) := by decide +kernel
theorem dX3_takeOff_26 : decode cX3_takeOff 26 = .ok (.iload 4, 2) := by decide +kernel
theorem dX3_takeOff_28 : decode cX3_takeOff 28 = .ok (.iload_n 2, 1) := by decide +kernel
theorem dX3_takeOff_29 : decode cX3_takeOff 29 = .ok (.iadd, 1) := by decide +kernel
theorem dX3_takeOff_30 : decode cX3_takeOff 30 = .ok (.invokevirtual 32, 3) := by decide +kernel
theorem dX3_takeOff_33 : decode cX3_takeOff 33 = .ok (.imul, 1) := by decide +kernel
theorem dX3_takeOff_34 : decode cX3_takeOff 34 = .ok (.isub, 1) := by decide +kernel
theorem dX3_takeOff_35 : decode cX3_takeOff 35 = .ok (.iastore, 1) := by decide +kernel
theorem dX3_takeOff_36 : decode cX3_takeOff 36 = .ok (.iinc 4 1, 3) := by decide +kernel
theorem dX3_takeOff_39 : decode cX3_takeOff 39 = .ok (.goto (-36), 3) := by decide +kernel
theorem dX3_takeOff_42 : decode cX3_takeOff 42 = .ok (.return_, 1) := by decide +kernel
set_option maxRecDepth 20000 in
theorem ggX3_mixedInto_X6_mixed : GoodIn wsX3_mixedInto wsX6_mixed := goodIn_r _ [5, 6] (by decide +kernel) (by decide +kernel)
set_option maxRecDepth 20000 in
theorem gX3_mixedInto_X6_mixed_n36 : GoodIn wsX3_mixedInto (wsX6_mixed) := ggX3_mixedInto_X6_mixed
theorem dX3_mixedInto_0 : decode cX3_mixedInto 0 = .ok (.lload_n 1, 1) := by decide +kernel
theorem dX3_mixedInto_1 : decode cX3_mixedInto 1 = .ok (.aload_n 0, 1) := by decide +kernel
theorem dX3_mixedInto_2 : decode cX3_mixedInto 2 = .ok (.getfield 15, 3) := by decide +kernel
theorem dX3_mixedInto_5 : decode cX3_mixedInto 5 = .ok (.i2l, 1) := by decide +kernel
theorem dX3_mixedInto_6 : decode cX3_mixedInto 6 = .ok (.invokestatic 36, 3) := by decide +kernel
theorem dX3_mixedInto_9 : decode cX3_mixedInto 9 = .ok (.lstore_n 3, 1) := by decide +kernel
theorem dX3_mixedInto_10 : decode cX3_mixedInto 10 = .ok (.iconst 0, 1) := by decide +kernel
theorem dX3_mixedInto_11 : decode cX3_mixedInto 11 = .ok (.istore 5, 2) := by decide +kernel
theorem dX3_mixedInto_13 : decode cX3_mixedInto 13 = .ok (.iload 5, 2) := by decide +kernel
theorem dX3_mixedInto_15 : decode cX3_mixedInto 15 = .ok (.aload_n 0, 1) := by decide +kernel
theorem dX3_mixedInto_16 : decode cX3_mixedInto 16 = .ok (.getfield 15, 3) := by decide +kernel
theorem dX3_mixedInto_19 : decode cX3_mixedInto 19 = .ok (.if_icmp .ge 22, 3) := by decide +kernel
theorem dX3_mixedInto_22 : decode cX3_mixedInto 22 = .ok (.lload_n 3, 1) := by decide +kernel
theorem dX3_mixedInto_23 : decode cX3_mixedInto 23 = .ok (.aload_n 0, 1) := by decide +kernel
theorem dX3_mixedInto_24 : decode cX3_mixedInto 24 = .ok (.getfield 9, 3) := by decide +kernel
theorem dX3_mixedInto_27 : decode cX3_mixedInto 27 = .ok (.iload 5, 2) := by decide +kernel
theorem dX3_mixedInto_29 : decode cX3_mixedInto 29 = .ok (.iaload, 1) := by decide +kernel
theorem dX3_mixedInto_30 : decode cX3_mixedInto 30 = .ok (.i2l, 1) := by decide +kernel
theorem dX3_mixedInto_31 : decode cX3_mixedInto 31 = .ok (.invokestatic 36, 3) := by decide +kernel
theorem dX3_mixedInto_34 : decode cX3_mixedInto 34 = .ok (.lstore_n 3, 1) := by decide +kernel
theorem dX3_mixedInto_35 : decode cX3_mixedInto 35 = .ok (.iinc 5 1, 3) := by decide +kernel
theorem dX3_mixedInto_38 : decode cX3_mixedInto 38 = .ok (.goto (-25), 3) := by decide +kernel
theorem dX3_mixedInto_41 : decode cX3_mixedInto 41 = .ok (.lload_n 3, 1) := by decide +kernel
theorem dX3_mixedInto_42 : decode cX3_mixedInto 42 = .ok (.lreturn, 1) := by decide +kernel
theorem dX4_init_0 : decode cX4_init 0 = .ok (.aload_n 0, 1) := by decide +kernel
theorem dX4_init_1 : decode cX4_init 1 = .ok (.invokespecial 1, 3) := by decide +kernel
theorem dX4_init_4 : decode cX4_init 4 = .ok (.aload_n 0, 1) := by decide +kernel
theorem dX4_init_5 : decode cX4_init 5 = .ok (.ldc2_w 7, 3) := by decide +kernel
theorem dX4_init_8 : decode cX4_init 8 = .ok (.putfield 9, 3) := by decide +kernel
theorem dX4_init_11 : decode cX4_init 11 = .ok (.aload_n 0, 1) := by decide +kernel
theorem dX4_init_12 : decode cX4_init 12 = .ok (.ldc2_w 7, 3) := by decide +kernel
theorem dX4_init_15 : decode cX4_init 15 = .ok (.putfield 15, 3) := by decide +kernel
theorem dX4_init_18 : decode cX4_init 18 = .ok (.aload_n 0, 1) := by decide +kernel
theorem dX4_init_19 : decode cX4_init 19 = .ok (.iconst 0, 1) := by decide +kernel
theorem dX4_init_20 : decode cX4_init 20 = .ok (.putfield 18, 3) := by decide +kernel
theorem dX4_init_23 : decode cX4_init 23 = .ok (.aload_n 0, 1) := by decide +kernel
theorem dX4_init_24 : decode cX4_init 24 = .ok (.iconst 0, 1) := by decide +kernel
theorem dX4_init_25 : decode cX4_init 25 = .ok (.putfield 22, 3) := by decide +kernel
theorem dX4_init_28 : decode cX4_init 28 = .ok (.return_, 1) := by decide +kernel
theorem dX4_begin_0 : decode cX4_begin 0 = .ok (.aload_n 0, 1) := by decide +kernel
theorem dX4_begin_1 : decode cX4_begin 1 = .ok (.ldc2_w 7, 3) := by decide +kernel
theorem dX4_begin_4 : decode cX4_begin 4 = .ok (.putfield 9, 3) := by decide +kernel
theorem dX4_begin_7 : decode cX4_begin 7 = .ok (.aload_n 0, 1) := by decide +kernel
theorem dX4_begin_8 : decode cX4_begin 8 = .ok (.ldc2_w 7, 3) := by decide +kernel
theorem dX4_begin_11 : decode cX4_begin 11 = .ok (.putfield 15, 3) := by decide +kernel
theorem dX4_begin_14 : decode cX4_begin 14 = .ok (.return_, 1) := by decide +kernel
theorem dX4_weigh_0 : decode cX4_weigh 0 = .ok (.lload_n 1, 1) := by decide +kernel
theorem dX4_weigh_1 : decode cX4_weigh 1 = .ok (.aload_n 0, 1) := by decide +kernel
theorem dX4_weigh_2 : decode cX4_weigh 2 = .ok (.getfield 9, 3) := by decide +kernel
theorem dX4_weigh_5 : decode cX4_weigh 5 = .ok (.lcmp, 1) := by decide +kernel
theorem dX4_weigh_6 : decode cX4_weigh 6 = .ok (.ifCond .le 30, 3) := by decide +kernel
theorem dX4_weigh_9 : decode cX4_weigh 9 = .ok (.aload_n 0, 1) := by decide +kernel
theorem dX4_weigh_10 : decode cX4_weigh 10 = .ok (.aload_n 0, 1) := by decide +kernel
theorem dX4_weigh_11 : decode cX4_weigh 11 = .ok (.getfield 9, 3) := by decide +kernel
theorem dX4_weigh_14 : decode cX4_weigh 14 = .ok (.putfield 15, 3) := by decide +kernel
theorem dX4_weigh_17 : decode cX4_weigh 17 = .ok (.aload_n 0, 1) := by decide +kernel
theorem dX4_weigh_18 : decode cX4_weigh 18 = .ok (.lload_n 1, 1) := by decide +kernel
theorem dX4_weigh_19 : decode cX4_weigh 19 = .ok (.putfield 9, 3) := by decide +kernel
theorem dX4_weigh_22 : decode cX4_weigh 22 = .ok (.aload_n 0, 1) := by decide +kernel
theorem dX4_weigh_23 : decode cX4_weigh 23 = .ok (.iload_n 3, 1) := by decide +kernel
theorem dX4_weigh_24 : decode cX4_weigh 24 = .ok (.putfield 18, 3) := by decide +kernel
theorem dX4_weigh_27 : decode cX4_weigh 27 = .ok (.aload_n 0, 1) := by decide +kernel
theorem dX4_weigh_28 : decode cX4_weigh 28 = .ok (.iload 4, 2) := by decide +kernel
theorem dX4_weigh_30 : decode cX4_weigh 30 = .ok (.putfield 22, 3) := by decide +kernel
theorem dX4_weigh_33 : decode cX4_weigh 33 = .ok (.goto 17, 3) := by decide +kernel
theorem dX4_weigh_36 : decode cX4_weigh 36 = .ok (.lload_n 1, 1) := by decide +kernel
theorem dX4_weigh_37 : decode cX4_weigh 37 = .ok (.aload_n 0, 1) := by decide +kernel
theorem dX4_weigh_38 : decode cX4_weigh 38 = .ok (.getfield 15, 3) := by decide +kernel
theorem dX4_weigh_41 : decode cX4_weigh 41 = .ok (.lcmp, 1) := by decide +kernel
theorem dX4_weigh_42 : decode cX4_weigh 42 = .ok (.ifCond .le 8, 3) := by decide +kernel
theorem dX4_weigh_45 : decode cX4_weigh 45 = .ok (.aload_n 0, 1) := by decide +kernel
theorem dX4_weigh_46 : decode cX4_weigh 46 = .ok (.lload_n 1, 1) := by decide +kernel
theorem dX4_weigh_47 : decode cX4_weigh 47 = .ok (.putfield 15, 3) := by decide +kernel
theorem dX4_weigh_50 : decode cX4_weigh 50 = .ok (.return_, 1) := by decide +kernel
theorem dX5_init_0 : decode cX5_init 0 = .ok (.aload_n 0, 1) := by decide +kernel
theorem dX5_init_1 : decode cX5_init 1 = .ok (.invokespecial 3, 3) := by decide +kernel
theorem dX5_init_4 : decode cX5_init 4 = .ok (.aload_n 0, 1) := by decide +kernel
theorem dX5_init_5 : decode cX5_init 5 = .ok (.bipush 127, 2) := by decide +kernel
theorem dX5_init_7 : decode cX5_init 7 = .ok (.newarray .int, 2) := by decide +kernel
theorem dX5_init_9 : decode cX5_init 9 = .ok (.putfield 9, 3) := by decide +kernel
theorem dX5_init_12 : decode cX5_init 12 = .ok (.aload_n 0, 1) := by decide +kernel
theorem dX5_init_13 : decode cX5_init 13 = .ok (.bipush 127, 2) := by decide +kernel
theorem dX5_init_15 : decode cX5_init 15 = .ok (.newarray .int, 2) := by decide +kernel
theorem dX5_init_17 : decode cX5_init 17 = .ok (.putfield 15, 3) := by decide +kernel
theorem dX5_init_20 : decode cX5_init 20 = .ok (.aload_n 0, 1) := by decide +kernel
theorem dX5_init_21 : decode cX5_init 21 = .ok (.bipush 127, 2) := by decide +kernel
theorem dX5_init_23 : decode cX5_init 23 = .ok (.newarray .int, 2) := by decide +kernel
theorem dX5_init_25 : decode cX5_init 25 = .ok (.putfield 18, 3) := by decide +kernel
theorem dX5_init_28 : decode cX5_init 28 = .ok (.aload_n 0, 1) := by decide +kernel
theorem dX5_init_29 : decode cX5_init 29 = .ok (.bipush 127, 2) := by decide +kernel
theorem dX5_init_31 : decode cX5_init 31 = .ok (.newarray .int, 2) := by decide +kernel
theorem dX5_init_33 : decode cX5_init 33 = .ok (.putfield 21, 3) := by decide +kernel
theorem dX5_init_36 : decode cX5_init 36 = .ok (.aload_n 0, 1) := by decide +kernel
theorem dX5_init_37 : decode cX5_init 37 = .ok (.iconst 0, 1) := by decide +kernel
theorem dX5_init_38 : decode cX5_init 38 = .ok (.putfield 24, 3) := by decide +kernel
theorem dX5_init_41 : decode cX5_init 41 = .ok (.return_, 1) := by decide +kernel
theorem dX5_turnBack_0 : decode cX5_turnBack 0 = .ok (.iconst 0, 1) := by decide +kernel
theorem dX5_turnBack_1 : decode cX5_turnBack 1 = .ok (.istore_n 2, 1) := by decide +kernel
theorem dX5_turnBack_2 : decode cX5_turnBack 2 = .ok (.iload_n 2, 1) := by decide +kernel
theorem dX5_turnBack_3 : decode cX5_turnBack 3 = .ok (.aload_n 0, 1) := by decide +kernel
theorem dX5_turnBack_4 : decode cX5_turnBack 4 = .ok (.getfield 24, 3) := by decide +kernel
theorem dX5_turnBack_7 : decode cX5_turnBack 7 = .ok (.if_icmp .ge 116, 3) := by decide +kernel
theorem dX5_turnBack_10 : decode cX5_turnBack 10 = .ok (.iload_n 1, 1) := by decide +kernel
theorem dX5_turnBack_11 : decode cX5_turnBack 11 = .ok (.iload_n 2, 1) := by decide +kernel
theorem dX5_turnBack_12 : decode cX5_turnBack 12 = .ok (.imul, 1) := by decide +kernel
theorem dX5_turnBack_13 : decode cX5_turnBack 13 = .ok (.iconst 3, 1) := by decide +kernel
theorem dX5_turnBack_14 : decode cX5_turnBack 14 = .ok (.iand, 1) := by decide +kernel
theorem dX5_turnBack_15 : decode cX5_turnBack 15 = .ok (.istore_n 3, 1) := by decide +kernel
theorem dX5_turnBack_16 : decode cX5_turnBack 16 = .ok (.iload_n 3, 1) := by decide +kernel
theorem dX5_turnBack_17 : decode cX5_turnBack 17 = .ok (.iconst 1, 1) := by decide +kernel
theorem dX5_turnBack_18 : decode cX5_turnBack 18 = .ok (.iand, 1) := by decide +kernel
theorem dX5_turnBack_19 : decode cX5_turnBack 19 = .ok (.iconst 1, 1) := by decide +kernel
theorem dX5_turnBack_20 : decode cX5_turnBack 20 = .ok (.if_icmp .ne 7, 3) := by decide +kernel
theorem dX5_turnBack_23 : decode cX5_turnBack 23 = .ok (.iconst 1, 1) := by decide +kernel
theorem dX5_turnBack_24 : decode cX5_turnBack 24 = .ok (.goto 4, 3) := by decide +kernel
theorem dX5_turnBack_27 : decode cX5_turnBack 27 = .ok (.iconst 0, 1) := by decide +kernel
theorem dX5_turnBack_28 : decode cX5_turnBack 28 = .ok (.istore 4, 2) := by decide +kernel
theorem dX5_turnBack_30 : decode cX5_turnBack 30 = .ok (.iload 4, 2) := by decide +kernel
theorem dX5_turnBack_32 : decode cX5_turnBack 32 = .ok (.ifCond .eq 12, 3) := by decide +kernel
theorem dX5_turnBack_35 : decode cX5_turnBack 35 = .ok (.aload_n 0, 1) := by decide +kernel
theorem dX5_turnBack_36 : decode cX5_turnBack 36 = .ok (.getfield 15, 3) := by decide +kernel
theorem dX5_turnBack_39 : decode cX5_turnBack 39 = .ok (.iload_n 2, 1) := by decide +kernel
theorem dX5_turnBack_40 : decode cX5_turnBack 40 = .ok (.iaload, 1) := by decide +kernel
theorem dX5_turnBack_41 : decode cX5_turnBack 41 = .ok (.goto 9, 3) := by decide +kernel
theorem dX5_turnBack_44 : decode cX5_turnBack 44 = .ok (.aload_n 0, 1) := by decide +kernel
theorem dX5_turnBack_45 : decode cX5_turnBack 45 = .ok (.getfield 9, 3) := by decide +kernel
theorem dX5_turnBack_48 : decode cX5_turnBack 48 = .ok (.iload_n 2, 1) := by decide +kernel
theorem dX5_turnBack_49 : decode cX5_turnBack 49 = .ok (.iaload, 1) := by decide +kernel
theorem dX5_turnBack_50 : decode cX5_turnBack 50 = .ok (.istore 5, 2) := by decide +kernel
theorem dX5_turnBack_52 : decode cX5_turnBack 52 = .ok (.iload 4, 2) := by decide +kernel
theorem dX5_turnBack_54 : decode cX5_turnBack 54 = .ok (.ifCond .eq 12, 3) := by decide +kernel
theorem dX5_turnBack_57 : decode cX5_turnBack 57 = .ok (.aload_n 0, 1) := by decide +kernel
theorem dX5_turnBack_58 : decode cX5_turnBack 58 = .ok (.getfield 9, 3) := by decide +kernel
theorem dX5_turnBack_61 : decode cX5_turnBack 61 = .ok (.iload_n 2, 1) := by decide +kernel
theorem dX5_turnBack_62 : decode cX5_turnBack 62 = .ok (.iaload, 1) := by decide +kernel
theorem dX5_turnBack_63 : decode cX5_turnBack 63 = .ok (.goto 9, 3) := by decide +kernel
theorem dX5_turnBack_66 : decode cX5_turnBack 66 = .ok (.aload_n 0, 1) := by decide +kernel
theorem dX5_turnBack_67 : decode cX5_turnBack 67 = .ok (.getfield 15, 3) := by decide +kernel
theorem dX5_turnBack_70 : decode cX5_turnBack 70 = .ok (.iload_n 2, 1) := by decide +kernel
theorem dX5_turnBack_71 : decode cX5_turnBack 71 = .ok (.iaload, 1) := by decide +kernel
theorem dX5_turnBack_72 : decode cX5_turnBack 72 = .ok (.istore 6, 2) := by decide +kernel
theorem dX5_turnBack_74 : decode cX5_turnBack 74 = .ok (.aload_n 0, 1) := by decide +kernel
theorem dX5_turnBack_75 : decode cX5_turnBack 75 = .ok (.getfield 18, 3) := by decide +kernel
theorem dX5_turnBack_78 : decode cX5_turnBack 78 = .ok (.iload_n 2, 1) := by decide +kernel
theorem dX5_turnBack_79 : decode cX5_turnBack 79 = .ok (.iload_n 3, 1) := by decide +kernel
theorem dX5_turnBack_80 : decode cX5_turnBack 80 = .ok (.iconst 2, 1) := by decide +kernel
theorem dX5_turnBack_81 : decode cX5_turnBack 81 = .ok (.if_icmp .lt 9, 3) := by decide +kernel
theorem dX5_turnBack_84 : decode cX5_turnBack 84 = .ok (.iload 5, 2) := by decide +kernel
theorem dX5_turnBack_86 : decode cX5_turnBack 86 = .ok (.ineg, 1) := by decide +kernel
theorem dX5_turnBack_87 : decode cX5_turnBack 87 = .ok (.goto 5, 3) := by decide +kernel
theorem dX5_turnBack_90 : decode cX5_turnBack 90 = .ok (.iload 5, 2) := by decide +kernel
theorem dX5_turnBack_92 : decode cX5_turnBack 92 = .ok (.iastore, 1) := by decide +kernel
theorem dX5_turnBack_93 : decode cX5_turnBack 93 = .ok (.aload_n 0, 1) := by decide +kernel
theorem dX5_turnBack_94 : decode cX5_turnBack 94 = .ok (.getfield 21, 3) := by decide +kernel
theorem dX5_turnBack_97 : decode cX5_turnBack 97 = .ok (.iload_n 2, 1) := by decide +kernel
theorem dX5_turnBack_98 : decode cX5_turnBack 98 = .ok (.iload_n 3, 1) := by decide +kernel
theorem dX5_turnBack_99 : decode cX5_turnBack 99 = .ok (.iconst 1, 1) := by decide +kernel
theorem dX5_turnBack_100 : decode cX5_turnBack 100 = .ok (.if_icmp .eq 8, 3) := by decide +kernel
theorem dX5_turnBack_103 : decode cX5_turnBack 103 = .ok (.iload_n 3, 1) := by decide +kernel
theorem dX5_turnBack_104 : decode cX5_turnBack 104 = .ok (.iconst 2, 1) := by decide +kernel
theorem dX5_turnBack_105 : decode cX5_turnBack 105 = .ok (.if_icmp .ne 9, 3) := by decide +kernel
end
section
theorem dX5_turnBack_108 : decode cX5_turnBack 108 = .ok (.iload 6, 2) := by decide +kernel
theorem dX5_turnBack_110 : decode cX5_turnBack 110 = .ok (.ineg, 1) := by decide +kernel
theorem dX5_turnBack_111 : decode cX5_turnBack 111 = .ok (.goto 5, 3) := by decide +kernel
theorem dX5_turnBack_114 : decode cX5_turnBack 114 = .ok (.iload 6, 2) := by decide +kernel
theorem dX5_turnBack_116 : decode cX5_turnBack 116 = .ok (.iastore, 1) := by decide +kernel
theorem dX5_turnBack_117 : decode cX5_turnBack 117 = .ok (.iinc 2 1, 3) := by decide +kernel
theorem dX5_turnBack_120 : decode cX5_turnBack 120 = .ok (.goto (-118), 3) := by decide +kernel
theorem dX5_turnBack_123 : decode cX5_turnBack 123 = .ok (.return_, 1) := by decide +kernel
theorem dX5_squaresOfX_0 : decode cX5_squaresOfX 0 = .ok (.lconst 0, 1) := by decide +kernel
theorem dX5_squaresOfX_1 : decode cX5_squaresOfX 1 = .ok (.lstore_n 1, 1) := by decide +kernel
theorem dX5_squaresOfX_2 : decode cX5_squaresOfX 2 = .ok (.iconst 0, 1) := by decide +kernel
theorem dX5_squaresOfX_3 : decode cX5_squaresOfX 3 = .ok (.istore_n 3, 1) := by decide +kernel
theorem dX5_squaresOfX_4 : decode cX5_squaresOfX 4 = .ok (.iload_n 3, 1) := by decide +kernel
theorem dX5_squaresOfX_5 : decode cX5_squaresOfX 5 = .ok (.aload_n 0, 1) := by decide +kernel
theorem dX5_squaresOfX_6 : decode cX5_squaresOfX 6 = .ok (.getfield 24, 3) := by decide +kernel
theorem dX5_squaresOfX_9 : decode cX5_squaresOfX 9 = .ok (.if_icmp .ge 27, 3) := by decide +kernel
theorem dX5_squaresOfX_12 : decode cX5_squaresOfX 12 = .ok (.lload_n 1, 1) := by decide +kernel
theorem dX5_squaresOfX_13 : decode cX5_squaresOfX 13 = .ok (.aload_n 0, 1) := by decide +kernel
theorem dX5_squaresOfX_14 : decode cX5_squaresOfX 14 = .ok (.getfield 9, 3) := by decide +kernel
theorem dX5_squaresOfX_17 : decode cX5_squaresOfX 17 = .ok (.iload_n 3, 1) := by decide +kernel
theorem dX5_squaresOfX_18 : decode cX5_squaresOfX 18 = .ok (.iaload, 1) := by decide +kernel
theorem dX5_squaresOfX_19 : decode cX5_squaresOfX 19 = .ok (.i2l, 1) := by decide +kernel
theorem dX5_squaresOfX_20 : decode cX5_squaresOfX 20 = .ok (.aload_n 0, 1) := by decide +kernel
theorem dX5_squaresOfX_21 : decode cX5_squaresOfX 21 = .ok (.getfield 9, 3) := by decide +kernel
theorem dX5_squaresOfX_24 : decode cX5_squaresOfX 24 = .ok (.iload_n 3, 1) := by decide +kernel
theorem dX5_squaresOfX_25 : decode cX5_squaresOfX 25 = .ok (.iaload, 1) := by decide +kernel
theorem dX5_squaresOfX_26 : decode cX5_squaresOfX 26 = .ok (.i2l, 1) := by decide +kernel
theorem dX5_squaresOfX_27 : decode cX5_squaresOfX 27 = .ok (.lmul, 1) := by decide +kernel
theorem dX5_squaresOfX_28 : decode cX5_squaresOfX 28 = .ok (.ladd, 1) := by decide +kernel
theorem dX5_squaresOfX_29 : decode cX5_squaresOfX 29 = .ok (.lstore_n 1, 1) := by decide +kernel
theorem dX5_squaresOfX_30 : decode cX5_squaresOfX 30 = .ok (.iinc 3 1, 3) := by decide +kernel
theorem dX5_squaresOfX_33 : decode cX5_squaresOfX 33 = .ok (.goto (-29), 3) := by decide +kernel
theorem dX5_squaresOfX_36 : decode cX5_squaresOfX 36 = .ok (.lload_n 1, 1) := by decide +kernel
theorem dX5_squaresOfX_37 : decode cX5_squaresOfX 37 = .ok (.lreturn, 1) := by decide +kernel
set_option maxRecDepth 20000 in
theorem ggX6_init_X5_init : GoodIn wsX6_init wsX5_init := goodIn_r _ [31, 32, 2, 3, 33, 34, 35, 36, 37, 38, 81, 82, 83, 84, 85] (by decide +kernel) (by decide +kernel)
set_option maxRecDepth 20000 in
theorem gX6_init_X5_init_n23 : GoodIn wsX6_init (wsX5_init) := ggX6_init_X5_init
set_option maxRecDepth 20000 in
theorem ggX6_init_X4_init : GoodIn wsX6_init wsX4_init := goodIn_r _ [40, 41, 2, 3, 42, 43, 44, 45, 46, 86, 87, 88, 89] (by decide +kernel) (by decide +kernel)
set_option maxRecDepth 20000 in
theorem gX6_init_X4_init_n30 : GoodIn wsX6_init (wsX4_init) := ggX6_init_X4_init
set_option maxRecDepth 20000 in
theorem ggX6_init_X1_init : GoodIn wsX6_init wsX1_init := goodIn_r _ [48, 49, 2, 3, 33, 50, 51, 52, 53, 54, 90, 91, 92, 93, 94] (by decide +kernel) (by decide +kernel)
set_option maxRecDepth 20000 in
theorem gX6_init_X1_init_n37 : GoodIn wsX6_init (wsX1_init) := ggX6_init_X1_init
set_option maxRecDepth 20000 in
theorem ggX6_init_X0_init : GoodIn wsX6_init wsX0_init := goodIn_r _ [56, 57, 2, 3, 33, 58, 59, 60, 95, 96, 97] (by decide +kernel) (by decide +kernel)
set_option maxRecDepth 20000 in
theorem gX6_init_X0_init_n44 : GoodIn wsX6_init (wsX0_init) := ggX6_init_X0_init
set_option maxRecDepth 20000 in
theorem ggX6_init_X3_init : GoodIn wsX6_init wsX3_init := goodIn_r _ [62, 63, 2, 3, 33, 64, 65, 98, 99] (by decide +kernel) (by decide +kernel)
set_option maxRecDepth 20000 in
theorem gX6_init_X3_init_n56 : GoodIn wsX6_init (wsX3_init) := ggX6_init_X3_init
set_option maxRecDepth 20000 in
theorem ggX6_init_X2_init : GoodIn wsX6_init wsX2_init := goodIn_r _ [67, 68, 2, 3, 33, 69, 70, 71, 72, 100, 101, 102, 103] (by decide +kernel) (by decide +kernel)
set_option maxRecDepth 20000 in
theorem gX6_init_X2_init_n57 : GoodIn wsX6_init (wsX2_init) := ggX6_init_X2_init
theorem dX6_init_0 : decode cX6_init 0 = .ok (.aload_n 0, 1) := by decide +kernel
theorem dX6_init_1 : decode cX6_init 1 = .ok (.invokespecial 1, 3) := by decide +kernel
theorem dX6_init_4 : decode cX6_init 4 = .ok (.aload_n 0, 1) := by decide +kernel
theorem dX6_init_5 : decode cX6_init 5 = .ok (.bipush 8, 2) := by decide +kernel
theorem dX6_init_7 : decode cX6_init 7 = .ok (.anewarray 9, 3) := by decide +kernel
theorem dX6_init_10 : decode cX6_init 10 = .ok (.putfield 11, 3) := by decide +kernel
theorem dX6_init_13 : decode cX6_init 13 = .ok (.aload_n 0, 1) := by decide +kernel
theorem dX6_init_14 : decode cX6_init 14 = .ok (.iconst 4, 1) := by decide +kernel
theorem dX6_init_15 : decode cX6_init 15 = .ok (.anewarray 15, 3) := by decide +kernel
theorem dX6_init_18 : decode cX6_init 18 = .ok (.putfield 17, 3) := by decide +kernel
theorem dX6_init_21 : decode cX6_init 21 = .ok (.aload_n 0, 1) := by decide +kernel
theorem dX6_init_22 : decode cX6_init 22 = .ok (.new 21, 3) := by decide +kernel
theorem dX6_init_25 : decode cX6_init 25 = .ok (.dup, 1) := by decide +kernel
theorem dX6_init_26 : decode cX6_init 26 = .ok (.invokespecial 23, 3) := by decide +kernel
theorem dX6_init_29 : decode cX6_init 29 = .ok (.putfield 24, 3) := by decide +kernel
theorem dX6_init_32 : decode cX6_init 32 = .ok (.aload_n 0, 1) := by decide +kernel
theorem dX6_init_33 : decode cX6_init 33 = .ok (.new 28, 3) := by decide +kernel
theorem dX6_init_36 : decode cX6_init 36 = .ok (.dup, 1) := by decide +kernel
theorem dX6_init_37 : decode cX6_init 37 = .ok (.invokespecial 30, 3) := by decide +kernel
theorem dX6_init_40 : decode cX6_init 40 = .ok (.putfield 31, 3) := by decide +kernel
theorem dX6_init_43 : decode cX6_init 43 = .ok (.aload_n 0, 1) := by decide +kernel
theorem dX6_init_44 : decode cX6_init 44 = .ok (.new 35, 3) := by decide +kernel
theorem dX6_init_47 : decode cX6_init 47 = .ok (.dup, 1) := by decide +kernel
theorem dX6_init_48 : decode cX6_init 48 = .ok (.invokespecial 37, 3) := by decide +kernel
theorem dX6_init_51 : decode cX6_init 51 = .ok (.putfield 38, 3) := by decide +kernel
theorem dX6_init_54 : decode cX6_init 54 = .ok (.aload_n 0, 1) := by decide +kernel
theorem dX6_init_55 : decode cX6_init 55 = .ok (.new 42, 3) := by decide +kernel
theorem dX6_init_58 : decode cX6_init 58 = .ok (.dup, 1) := by decide +kernel
theorem dX6_init_59 : decode cX6_init 59 = .ok (.invokespecial 44, 3) := by decide +kernel
theorem dX6_init_62 : decode cX6_init 62 = .ok (.putfield 45, 3) := by decide +kernel
theorem dX6_init_65 : decode cX6_init 65 = .ok (.aload_n 0, 1) := by decide +kernel
theorem dX6_init_66 : decode cX6_init 66 = .ok (.bipush 50, 2) := by decide +kernel
theorem dX6_init_68 : decode cX6_init 68 = .ok (.putfield 49, 3) := by decide +kernel
theorem dX6_init_71 : decode cX6_init 71 = .ok (.aload_n 0, 1) := by decide +kernel
theorem dX6_init_72 : decode cX6_init 72 = .ok (.iconst 0, 1) := by decide +kernel
theorem dX6_init_73 : decode cX6_init 73 = .ok (.putfield 53, 3) := by decide +kernel
theorem dX6_init_76 : decode cX6_init 76 = .ok (.iconst 0, 1) := by decide +kernel
theorem dX6_init_77 : decode cX6_init 77 = .ok (.istore_n 1, 1) := by decide +kernel
theorem dX6_init_78 : decode cX6_init 78 = .ok (.iload_n 1, 1) := by decide +kernel
theorem dX6_init_79 : decode cX6_init 79 = .ok (.bipush 8, 2) := by decide +kernel
theorem dX6_init_81 : decode cX6_init 81 = .ok (.if_icmp .ge 22, 3) := by decide +kernel
theorem dX6_init_84 : decode cX6_init 84 = .ok (.aload_n 0, 1) := by decide +kernel
theorem dX6_init_85 : decode cX6_init 85 = .ok (.getfield 11, 3) := by decide +kernel
theorem dX6_init_88 : decode cX6_init 88 = .ok (.iload_n 1, 1) := by decide +kernel
theorem dX6_init_89 : decode cX6_init 89 = .ok (.new 9, 3) := by decide +kernel
theorem dX6_init_92 : decode cX6_init 92 = .ok (.dup, 1) := by decide +kernel
theorem dX6_init_93 : decode cX6_init 93 = .ok (.invokespecial 56, 3) := by decide +kernel
theorem dX6_init_96 : decode cX6_init 96 = .ok (.aastore, 1) := by decide +kernel
theorem dX6_init_97 : decode cX6_init 97 = .ok (.iinc 1 1, 3) := by decide +kernel
theorem dX6_init_100 : decode cX6_init 100 = .ok (.goto (-22), 3) := by decide +kernel
theorem dX6_init_103 : decode cX6_init 103 = .ok (.iconst 0, 1) := by decide +kernel
theorem dX6_init_104 : decode cX6_init 104 = .ok (.istore_n 1, 1) := by decide +kernel
theorem dX6_init_105 : decode cX6_init 105 = .ok (.iload_n 1, 1) := by decide +kernel
theorem dX6_init_106 : decode cX6_init 106 = .ok (.iconst 4, 1) := by decide +kernel
theorem dX6_init_107 : decode cX6_init 107 = .ok (.if_icmp .ge 22, 3) := by decide +kernel
theorem dX6_init_110 : decode cX6_init 110 = .ok (.aload_n 0, 1) := by decide +kernel
theorem dX6_init_111 : decode cX6_init 111 = .ok (.getfield 17, 3) := by decide +kernel
theorem dX6_init_114 : decode cX6_init 114 = .ok (.iload_n 1, 1) := by decide +kernel
theorem dX6_init_115 : decode cX6_init 115 = .ok (.new 15, 3) := by decide +kernel
theorem dX6_init_118 : decode cX6_init 118 = .ok (.dup, 1) := by decide +kernel
theorem dX6_init_119 : decode cX6_init 119 = .ok (.invokespecial 57, 3) := by decide +kernel
theorem dX6_init_122 : decode cX6_init 122 = .ok (.aastore, 1) := by decide +kernel
theorem dX6_init_123 : decode cX6_init 123 = .ok (.iinc 1 1, 3) := by decide +kernel
theorem dX6_init_126 : decode cX6_init 126 = .ok (.goto (-21), 3) := by decide +kernel
theorem dX6_init_129 : decode cX6_init 129 = .ok (.return_, 1) := by decide +kernel
set_option maxRecDepth 20000 in
theorem ggX6_make_X6_isRow : GoodIn wsX6_make wsX6_isRow := goodIn_r _ [5] (by decide +kernel) (by decide +kernel)
set_option maxRecDepth 20000 in
theorem gX6_make_X6_isRow : GoodIn wsX6_make (va_wsS RX6 58 yX6_isRow wsX6_isRow) := goodIn_app (goodIn_of _ (by decide +kernel)) ggX6_make_X6_isRow
set_option maxRecDepth 20000 in
theorem ggX6_make_X6_isRegister : GoodIn wsX6_make wsX6_isRegister := goodIn_r _ [8, 9, 10, 4, 11] (by decide +kernel) (by decide +kernel)
set_option maxRecDepth 20000 in
theorem gX6_make_X6_isRegister : GoodIn wsX6_make (va_wsS RX6 62 yX6_isRegister wsX6_isRegister) := goodIn_app (goodIn_of _ (by decide +kernel)) ggX6_make_X6_isRegister
set_option maxRecDepth 20000 in
theorem ggX6_make_X3_fillByRegister : GoodIn wsX6_make wsX3_fillByRegister := goodIn_r _ [16, 17, 18, 19, 4, 20, 21, 22, 23, 24, 25, 26, 27, 36, 37] (by decide +kernel) (by decide +kernel)
set_option maxRecDepth 20000 in
theorem gX6_make_X3_fillByRegister : GoodIn wsX6_make (wsV RX6 66 RX3 yX3_fillByRegister wsX3_fillByRegister) := goodIn_app (goodIn_of _ (by decide +kernel)) ggX6_make_X3_fillByRegister
theorem dX6_make_0 : decode cX6_make 0 = .ok (.iload_n 1, 1) := by decide +kernel
theorem dX6_make_1 : decode cX6_make 1 = .ok (.invokestatic 58, 3) := by decide +kernel
theorem dX6_make_4 : decode cX6_make 4 = .ok (.ifCond .eq 13, 3) := by decide +kernel
theorem dX6_make_7 : decode cX6_make 7 = .ok (.iload_n 2, 1) := by decide +kernel
theorem dX6_make_8 : decode cX6_make 8 = .ok (.iload_n 3, 1) := by decide +kernel
theorem dX6_make_9 : decode cX6_make 9 = .ok (.iload 4, 2) := by decide +kernel
theorem dX6_make_11 : decode cX6_make 11 = .ok (.invokestatic 62, 3) := by decide +kernel
theorem dX6_make_14 : decode cX6_make 14 = .ok (.ifCond .ne 6, 3) := by decide +kernel
theorem dX6_make_17 : decode cX6_make 17 = .ok (.bipush (-2), 2) := by decide +kernel
theorem dX6_make_19 : decode cX6_make 19 = .ok (.ireturn, 1) := by decide +kernel
theorem dX6_make_20 : decode cX6_make 20 = .ok (.aload_n 0, 1) := by decide +kernel
theorem dX6_make_21 : decode cX6_make 21 = .ok (.getfield 11, 3) := by decide +kernel
theorem dX6_make_24 : decode cX6_make 24 = .ok (.iload_n 1, 1) := by decide +kernel
theorem dX6_make_25 : decode cX6_make 25 = .ok (.aaload, 1) := by decide +kernel
theorem dX6_make_26 : decode cX6_make 26 = .ok (.iload_n 2, 1) := by decide +kernel
theorem dX6_make_27 : decode cX6_make 27 = .ok (.iload_n 3, 1) := by decide +kernel
theorem dX6_make_28 : decode cX6_make 28 = .ok (.iload 4, 2) := by decide +kernel
theorem dX6_make_30 : decode cX6_make 30 = .ok (.invokevirtual 66, 3) := by decide +kernel
theorem dX6_make_33 : decode cX6_make 33 = .ok (.aload_n 0, 1) := by decide +kernel
theorem dX6_make_34 : decode cX6_make 34 = .ok (.getfield 11, 3) := by decide +kernel
theorem dX6_make_37 : decode cX6_make 37 = .ok (.iload_n 1, 1) := by decide +kernel
theorem dX6_make_38 : decode cX6_make 38 = .ok (.aaload, 1) := by decide +kernel
theorem dX6_make_39 : decode cX6_make 39 = .ok (.getfield 70, 3) := by decide +kernel
theorem dX6_make_42 : decode cX6_make 42 = .ok (.ireturn, 1) := by decide +kernel
set_option maxRecDepth 20000 in
theorem ggX6_period_X6_isRegister : GoodIn wsX6_period wsX6_isRegister := goodIn_r _ [4, 5, 6, 3, 7] (by decide +kernel) (by decide +kernel)
set_option maxRecDepth 20000 in
theorem gX6_period_X6_isRegister : GoodIn wsX6_period (va_wsS RX6 62 yX6_isRegister wsX6_isRegister) := goodIn_app (goodIn_of _ (by decide +kernel)) ggX6_period_X6_isRegister
set_option maxRecDepth 20000 in
theorem ggX6_period_X6_stepsToReturn : GoodIn wsX6_period wsX6_stepsToReturn := goodIn_r _ [10, 11, 12, 3, 13, 14, 15, 16, 17, 18, 19, 20] (by decide +kernel) (by decide +kernel)
set_option maxRecDepth 20000 in
theorem gX6_period_X6_stepsToReturn : GoodIn wsX6_period (va_wsS RX6 73 yX6_stepsToReturn wsX6_stepsToReturn) := goodIn_app (goodIn_of _ (by decide +kernel)) ggX6_period_X6_stepsToReturn
theorem dX6_period_0 : decode cX6_period 0 = .ok (.iload_n 1, 1) := by decide +kernel
theorem dX6_period_1 : decode cX6_period 1 = .ok (.iload_n 2, 1) := by decide +kernel
theorem dX6_period_2 : decode cX6_period 2 = .ok (.iload_n 3, 1) := by decide +kernel
theorem dX6_period_3 : decode cX6_period 3 = .ok (.invokestatic 62, 3) := by decide +kernel
theorem dX6_period_6 : decode cX6_period 6 = .ok (.ifCond .eq 12, 3) := by decide +kernel
theorem dX6_period_9 : decode cX6_period 9 = .ok (.iload_n 1, 1) := by decide +kernel
theorem dX6_period_10 : decode cX6_period 10 = .ok (.iload_n 2, 1) := by decide +kernel
theorem dX6_period_11 : decode cX6_period 11 = .ok (.iload_n 3, 1) := by decide +kernel
theorem dX6_period_12 : decode cX6_period 12 = .ok (.invokestatic 73, 3) := by decide +kernel
theorem dX6_period_15 : decode cX6_period 15 = .ok (.goto 5, 3) := by decide +kernel
theorem dX6_period_18 : decode cX6_period 18 = .ok (.bipush (-2), 2) := by decide +kernel
theorem dX6_period_20 : decode cX6_period 20 = .ok (.ireturn, 1) := by decide +kernel
set_option maxRecDepth 20000 in
theorem ggX6_full_X6_isBits : GoodIn wsX6_full wsX6_isBits := goodIn_r _ [4] (by decide +kernel) (by decide +kernel)
set_option maxRecDepth 20000 in
theorem gX6_full_X6_isBits : GoodIn wsX6_full (va_wsS RX6 77 yX6_isBits wsX6_isBits) := goodIn_app (goodIn_of _ (by decide +kernel)) ggX6_full_X6_isBits
set_option maxRecDepth 20000 in
theorem ggX6_full_X6_stepsToReturn : GoodIn wsX6_full wsX6_stepsToReturn := goodIn_r _ [7, 8, 9, 3, 10, 11, 12, 13, 14, 15, 16, 17] (by decide +kernel) (by decide +kernel)
set_option maxRecDepth 20000 in
theorem gX6_full_X6_stepsToReturn : GoodIn wsX6_full (va_wsS RX6 73 yX6_stepsToReturn wsX6_stepsToReturn) := goodIn_app (goodIn_of _ (by decide +kernel)) ggX6_full_X6_stepsToReturn
theorem dX6_full_0 : decode cX6_full 0 = .ok (.iload_n 1, 1) := by decide +kernel
theorem dX6_full_1 : decode cX6_full 1 = .ok (.invokestatic 77, 3) := by decide +kernel
theorem dX6_full_4 : decode cX6_full 4 = .ok (.ifCond .ne 6, 3) := by decide +kernel
theorem dX6_full_7 : decode cX6_full 7 = .ok (.bipush (-2), 2) := by decide +kernel
theorem dX6_full_9 : decode cX6_full 9 = .ok (.ireturn, 1) := by decide +kernel
theorem dX6_full_10 : decode cX6_full 10 = .ok (.iconst 1, 1) := by decide +kernel
theorem dX6_full_11 : decode cX6_full 11 = .ok (.iload_n 1, 1) := by decide +kernel
theorem dX6_full_12 : decode cX6_full 12 = .ok (.ishl, 1) := by decide +kernel
theorem dX6_full_13 : decode cX6_full 13 = .ok (.iconst 1, 1) := by decide +kernel
theorem dX6_full_14 : decode cX6_full 14 = .ok (.isub, 1) := by decide +kernel
theorem dX6_full_15 : decode cX6_full 15 = .ok (.istore_n 2, 1) := by decide +kernel
theorem dX6_full_16 : decode cX6_full 16 = .ok (.iconst 0, 1) := by decide +kernel
theorem dX6_full_17 : decode cX6_full 17 = .ok (.istore_n 3, 1) := by decide +kernel
theorem dX6_full_18 : decode cX6_full 18 = .ok (.iconst 1, 1) := by decide +kernel
theorem dX6_full_19 : decode cX6_full 19 = .ok (.istore 4, 2) := by decide +kernel
theorem dX6_full_21 : decode cX6_full 21 = .ok (.iload 4, 2) := by decide +kernel
theorem dX6_full_23 : decode cX6_full 23 = .ok (.iload_n 2, 1) := by decide +kernel
theorem dX6_full_24 : decode cX6_full 24 = .ok (.if_icmp .gt 23, 3) := by decide +kernel
theorem dX6_full_27 : decode cX6_full 27 = .ok (.iload_n 1, 1) := by decide +kernel
theorem dX6_full_28 : decode cX6_full 28 = .ok (.iload 4, 2) := by decide +kernel
theorem dX6_full_30 : decode cX6_full 30 = .ok (.iconst 1, 1) := by decide +kernel
theorem dX6_full_31 : decode cX6_full 31 = .ok (.invokestatic 73, 3) := by decide +kernel
theorem dX6_full_34 : decode cX6_full 34 = .ok (.iload_n 2, 1) := by decide +kernel
theorem dX6_full_35 : decode cX6_full 35 = .ok (.if_icmp .ne 6, 3) := by decide +kernel
theorem dX6_full_38 : decode cX6_full 38 = .ok (.iinc 3 1, 3) := by decide +kernel
theorem dX6_full_41 : decode cX6_full 41 = .ok (.iinc 4 2, 3) := by decide +kernel
theorem dX6_full_44 : decode cX6_full 44 = .ok (.goto (-23), 3) := by decide +kernel
theorem dX6_full_47 : decode cX6_full 47 = .ok (.iload_n 3, 1) := by decide +kernel
theorem dX6_full_48 : decode cX6_full 48 = .ok (.ireturn, 1) := by decide +kernel
set_option maxRecDepth 20000 in
theorem ggX6_join_X6_isRow : GoodIn wsX6_join wsX6_isRow := goodIn_r _ [6] (by decide +kernel) (by decide +kernel)
set_option maxRecDepth 20000 in
theorem gX6_join_X6_isRow : GoodIn wsX6_join (va_wsS RX6 58 yX6_isRow wsX6_isRow) := goodIn_app (goodIn_of _ (by decide +kernel)) ggX6_join_X6_isRow
set_option maxRecDepth 20000 in
theorem ggX6_join_X6_isShift : GoodIn wsX6_join wsX6_isShift := goodIn_r _ [9] (by decide +kernel) (by decide +kernel)
set_option maxRecDepth 20000 in
theorem gX6_join_X6_isShift : GoodIn wsX6_join (va_wsS RX6 80 yX6_isShift wsX6_isShift) := goodIn_app (goodIn_of _ (by decide +kernel)) ggX6_join_X6_isShift
set_option maxRecDepth 20000 in
theorem ggX6_join_X6_arePaired : GoodIn wsX6_join wsX6_arePaired := goodIn_r _ [13, 1, 14, 15, 16, 17, 18, 19, 37, 38, 39, 40, 41, 42, 43, 44, 45, 46] (by decide +kernel) (by decide +kernel)
set_option maxRecDepth 20000 in
theorem gX6_join_X6_arePaired : GoodIn wsX6_join (wsV RX6 83 RX6 yX6_arePaired wsX6_arePaired) := goodIn_app (goodIn_of _ (by decide +kernel)) ggX6_join_X6_arePaired
set_option maxRecDepth 20000 in
theorem ggX6_join_X3_signAt : GoodIn wsX6_join wsX3_signAt := goodIn_r _ [23, 19, 24, 25, 26, 27, 28, 45, 46] (by decide +kernel) (by decide +kernel)
set_option maxRecDepth 20000 in
theorem gX6_join_X3_signAt : GoodIn wsX6_join (wsV RX6 91 RX3 yX3_signAt wsX3_signAt) := goodIn_app (goodIn_of _ (by decide +kernel)) ggX6_join_X3_signAt
set_option maxRecDepth 20000 in
theorem ggX6_join_X3_fillBySignsOf : GoodIn wsX6_join wsX3_fillBySignsOf := goodIn_r _ [32, 33, 34, 35, 36, 19, 24, 45, 46] (by decide +kernel) (by decide +kernel)
set_option maxRecDepth 20000 in
theorem gX6_join_X3_fillBySignsOf : GoodIn wsX6_join (wsV RX6 95 RX3 yX3_fillBySignsOf wsX3_fillBySignsOf) := goodIn_app (goodIn_of _ (by decide +kernel)) ggX6_join_X3_fillBySignsOf
theorem dX6_join_0 : decode cX6_join 0 = .ok (.iload_n 1, 1) := by decide +kernel
theorem dX6_join_1 : decode cX6_join 1 = .ok (.invokestatic 58, 3) := by decide +kernel
theorem dX6_join_4 : decode cX6_join 4 = .ok (.ifCond .eq 25, 3) := by decide +kernel
theorem dX6_join_7 : decode cX6_join 7 = .ok (.iload_n 2, 1) := by decide +kernel
theorem dX6_join_8 : decode cX6_join 8 = .ok (.invokestatic 58, 3) := by decide +kernel
theorem dX6_join_11 : decode cX6_join 11 = .ok (.ifCond .eq 18, 3) := by decide +kernel
theorem dX6_join_14 : decode cX6_join 14 = .ok (.iload_n 3, 1) := by decide +kernel
theorem dX6_join_15 : decode cX6_join 15 = .ok (.invokestatic 80, 3) := by decide +kernel
theorem dX6_join_18 : decode cX6_join 18 = .ok (.ifCond .eq 11, 3) := by decide +kernel
theorem dX6_join_21 : decode cX6_join 21 = .ok (.iload 4, 2) := by decide +kernel
theorem dX6_join_23 : decode cX6_join 23 = .ok (.invokestatic 58, 3) := by decide +kernel
theorem dX6_join_26 : decode cX6_join 26 = .ok (.ifCond .ne 6, 3) := by decide +kernel
theorem dX6_join_29 : decode cX6_join 29 = .ok (.bipush (-2), 2) := by decide +kernel
theorem dX6_join_31 : decode cX6_join 31 = .ok (.ireturn, 1) := by decide +kernel
theorem dX6_join_32 : decode cX6_join 32 = .ok (.aload_n 0, 1) := by decide +kernel
theorem dX6_join_33 : decode cX6_join 33 = .ok (.iload_n 1, 1) := by decide +kernel
theorem dX6_join_34 : decode cX6_join 34 = .ok (.iload_n 2, 1) := by decide +kernel
theorem dX6_join_35 : decode cX6_join 35 = .ok (.invokevirtual 83, 3) := by decide +kernel
theorem dX6_join_38 : decode cX6_join 38 = .ok (.ifCond .ne 6, 3) := by decide +kernel
theorem dX6_join_41 : decode cX6_join 41 = .ok (.bipush (-3), 2) := by decide +kernel
theorem dX6_join_43 : decode cX6_join 43 = .ok (.ireturn, 1) := by decide +kernel
theorem dX6_join_44 : decode cX6_join 44 = .ok (.aload_n 0, 1) := by decide +kernel
theorem dX6_join_45 : decode cX6_join 45 = .ok (.getfield 11, 3) := by decide +kernel
theorem dX6_join_48 : decode cX6_join 48 = .ok (.iload_n 1, 1) := by decide +kernel
theorem dX6_join_49 : decode cX6_join 49 = .ok (.aaload, 1) := by decide +kernel
theorem dX6_join_50 : decode cX6_join 50 = .ok (.getfield 70, 3) := by decide +kernel
theorem dX6_join_53 : decode cX6_join 53 = .ok (.istore 5, 2) := by decide +kernel
theorem dX6_join_55 : decode cX6_join 55 = .ok (.iconst 0, 1) := by decide +kernel
theorem dX6_join_56 : decode cX6_join 56 = .ok (.istore 6, 2) := by decide +kernel
theorem dX6_join_58 : decode cX6_join 58 = .ok (.iload 6, 2) := by decide +kernel
theorem dX6_join_60 : decode cX6_join 60 = .ok (.iload 5, 2) := by decide +kernel
theorem dX6_join_62 : decode cX6_join 62 = .ok (.if_icmp .ge 44, 3) := by decide +kernel
theorem dX6_join_65 : decode cX6_join 65 = .ok (.aload_n 0, 1) := by decide +kernel
theorem dX6_join_66 : decode cX6_join 66 = .ok (.getfield 24, 3) := by decide +kernel
theorem dX6_join_69 : decode cX6_join 69 = .ok (.getfield 87, 3) := by decide +kernel
theorem dX6_join_72 : decode cX6_join 72 = .ok (.iload 6, 2) := by decide +kernel
theorem dX6_join_74 : decode cX6_join 74 = .ok (.aload_n 0, 1) := by decide +kernel
theorem dX6_join_75 : decode cX6_join 75 = .ok (.getfield 11, 3) := by decide +kernel
theorem dX6_join_78 : decode cX6_join 78 = .ok (.iload_n 1, 1) := by decide +kernel
theorem dX6_join_79 : decode cX6_join 79 = .ok (.aaload, 1) := by decide +kernel
theorem dX6_join_80 : decode cX6_join 80 = .ok (.iload 6, 2) := by decide +kernel
theorem dX6_join_82 : decode cX6_join 82 = .ok (.invokevirtual 91, 3) := by decide +kernel
theorem dX6_join_85 : decode cX6_join 85 = .ok (.aload_n 0, 1) := by decide +kernel
theorem dX6_join_86 : decode cX6_join 86 = .ok (.getfield 11, 3) := by decide +kernel
theorem dX6_join_89 : decode cX6_join 89 = .ok (.iload_n 2, 1) := by decide +kernel
theorem dX6_join_90 : decode cX6_join 90 = .ok (.aaload, 1) := by decide +kernel
theorem dX6_join_91 : decode cX6_join 91 = .ok (.iload 6, 2) := by decide +kernel
theorem dX6_join_93 : decode cX6_join 93 = .ok (.iload_n 3, 1) := by decide +kernel
theorem dX6_join_94 : decode cX6_join 94 = .ok (.iadd, 1) := by decide +kernel
theorem dX6_join_95 : decode cX6_join 95 = .ok (.invokevirtual 91, 3) := by decide +kernel
theorem dX6_join_98 : decode cX6_join 98 = .ok (.imul, 1) := by decide +kernel
theorem dX6_join_99 : decode cX6_join 99 = .ok (.iastore, 1) := by decide +kernel
theorem dX6_join_100 : decode cX6_join 100 = .ok (.iinc 6 1, 3) := by decide +kernel
theorem dX6_join_103 : decode cX6_join 103 = .ok (.goto (-45), 3) := by decide +kernel
theorem dX6_join_106 : decode cX6_join 106 = .ok (.aload_n 0, 1) := by decide +kernel
theorem dX6_join_107 : decode cX6_join 107 = .ok (.getfield 11, 3) := by decide +kernel
theorem dX6_join_110 : decode cX6_join 110 = .ok (.iload 4, 2) := by decide +kernel
theorem dX6_join_112 : decode cX6_join 112 = .ok (.aaload, 1) := by decide +kernel
theorem dX6_join_113 : decode cX6_join 113 = .ok (.aload_n 0, 1) := by decide +kernel
theorem dX6_join_114 : decode cX6_join 114 = .ok (.getfield 24, 3) := by decide +kernel
theorem dX6_join_117 : decode cX6_join 117 = .ok (.getfield 87, 3) := by decide +kernel
theorem dX6_join_120 : decode cX6_join 120 = .ok (.iload 5, 2) := by decide +kernel
theorem dX6_join_122 : decode cX6_join 122 = .ok (.invokevirtual 95, 3) := by decide +kernel
theorem dX6_join_125 : decode cX6_join 125 = .ok (.iload 5, 2) := by decide +kernel
theorem dX6_join_127 : decode cX6_join 127 = .ok (.ireturn, 1) := by decide +kernel
set_option maxRecDepth 20000 in
theorem ggX6_load_X6_isRow : GoodIn wsX6_load wsX6_isRow := goodIn_r _ [6] (by decide +kernel) (by decide +kernel)
set_option maxRecDepth 20000 in
theorem gX6_load_X6_isRow : GoodIn wsX6_load (va_wsS RX6 58 yX6_isRow wsX6_isRow) := goodIn_app (goodIn_of _ (by decide +kernel)) ggX6_load_X6_isRow
set_option maxRecDepth 20000 in
theorem ggX6_load_X6_isReel : GoodIn wsX6_load wsX6_isReel := goodIn_r _ [9] (by decide +kernel) (by decide +kernel)
set_option maxRecDepth 20000 in
theorem gX6_load_X6_isReel : GoodIn wsX6_load (va_wsS RX6 99 yX6_isReel wsX6_isReel) := goodIn_app (goodIn_of _ (by decide +kernel)) ggX6_load_X6_isReel
set_option maxRecDepth 20000 in
theorem ggX6_load_X6_isSize : GoodIn wsX6_load wsX6_isSize := goodIn_r _ [12] (by decide +kernel) (by decide +kernel)
set_option maxRecDepth 20000 in
theorem gX6_load_X6_isSize : GoodIn wsX6_load (va_wsS RX6 102 yX6_isSize wsX6_isSize) := goodIn_app (goodIn_of _ (by decide +kernel)) ggX6_load_X6_isSize
set_option maxRecDepth 20000 in
theorem ggX6_load_X6_found : GoodIn wsX6_load wsX6_found := goodIn_r _ [16, 17, 29, 30, 31, 32, 33, 34, 35, 36] (by decide +kernel) (by decide +kernel)
set_option maxRecDepth 20000 in
theorem gX6_load_X6_found : GoodIn wsX6_load (wsV RX6 109 RX6 yX6_found wsX6_found) := goodIn_app (goodIn_of _ (by decide +kernel)) ggX6_load_X6_found
set_option maxRecDepth 20000 in
theorem ggX6_load_X3_fillBySignsOf : GoodIn wsX6_load wsX3_fillBySignsOf := goodIn_r _ [22, 23, 24, 25, 26, 27, 28, 41, 42] (by decide +kernel) (by decide +kernel)
set_option maxRecDepth 20000 in
theorem gX6_load_X3_fillBySignsOf : GoodIn wsX6_load (wsV RX6 95 RX3 yX3_fillBySignsOf wsX3_fillBySignsOf) := goodIn_app (goodIn_of _ (by decide +kernel)) ggX6_load_X3_fillBySignsOf
theorem dX6_load_0 : decode cX6_load 0 = .ok (.iload_n 1, 1) := by decide +kernel
theorem dX6_load_1 : decode cX6_load 1 = .ok (.invokestatic 58, 3) := by decide +kernel
theorem dX6_load_4 : decode cX6_load 4 = .ok (.ifCond .eq 17, 3) := by decide +kernel
theorem dX6_load_7 : decode cX6_load 7 = .ok (.iload_n 2, 1) := by decide +kernel
theorem dX6_load_8 : decode cX6_load 8 = .ok (.invokestatic 99, 3) := by decide +kernel
theorem dX6_load_11 : decode cX6_load 11 = .ok (.ifCond .eq 10, 3) := by decide +kernel
theorem dX6_load_14 : decode cX6_load 14 = .ok (.iload_n 3, 1) := by decide +kernel
theorem dX6_load_15 : decode cX6_load 15 = .ok (.invokestatic 102, 3) := by decide +kernel
theorem dX6_load_18 : decode cX6_load 18 = .ok (.ifCond .ne 6, 3) := by decide +kernel
theorem dX6_load_21 : decode cX6_load 21 = .ok (.bipush (-2), 2) := by decide +kernel
theorem dX6_load_23 : decode cX6_load 23 = .ok (.ireturn, 1) := by decide +kernel
theorem dX6_load_24 : decode cX6_load 24 = .ok (.aload_n 0, 1) := by decide +kernel
theorem dX6_load_25 : decode cX6_load 25 = .ok (.getfield 17, 3) := by decide +kernel
theorem dX6_load_28 : decode cX6_load 28 = .ok (.iload_n 2, 1) := by decide +kernel
theorem dX6_load_29 : decode cX6_load 29 = .ok (.aaload, 1) := by decide +kernel
theorem dX6_load_30 : decode cX6_load 30 = .ok (.getfield 105, 3) := by decide +kernel
theorem dX6_load_33 : decode cX6_load 33 = .ok (.ifCond .eq 9, 3) := by decide +kernel
theorem dX6_load_36 : decode cX6_load 36 = .ok (.aload_n 0, 1) := by decide +kernel
theorem dX6_load_37 : decode cX6_load 37 = .ok (.iconst 1, 1) := by decide +kernel
theorem dX6_load_38 : decode cX6_load 38 = .ok (.invokevirtual 109, 3) := by decide +kernel
theorem dX6_load_41 : decode cX6_load 41 = .ok (.ireturn, 1) := by decide +kernel
theorem dX6_load_42 : decode cX6_load 42 = .ok (.aload_n 0, 1) := by decide +kernel
theorem dX6_load_43 : decode cX6_load 43 = .ok (.getfield 17, 3) := by decide +kernel
theorem dX6_load_46 : decode cX6_load 46 = .ok (.iload_n 2, 1) := by decide +kernel
theorem dX6_load_47 : decode cX6_load 47 = .ok (.aaload, 1) := by decide +kernel
theorem dX6_load_48 : decode cX6_load 48 = .ok (.getfield 112, 3) := by decide +kernel
theorem dX6_load_51 : decode cX6_load 51 = .ok (.iload_n 3, 1) := by decide +kernel
theorem dX6_load_52 : decode cX6_load 52 = .ok (.if_icmp .ge 9, 3) := by decide +kernel
theorem dX6_load_55 : decode cX6_load 55 = .ok (.aload_n 0, 1) := by decide +kernel
theorem dX6_load_56 : decode cX6_load 56 = .ok (.iconst 2, 1) := by decide +kernel
theorem dX6_load_57 : decode cX6_load 57 = .ok (.invokevirtual 109, 3) := by decide +kernel
theorem dX6_load_60 : decode cX6_load 60 = .ok (.ireturn, 1) := by decide +kernel
theorem dX6_load_61 : decode cX6_load 61 = .ok (.aload_n 0, 1) := by decide +kernel
theorem dX6_load_62 : decode cX6_load 62 = .ok (.getfield 11, 3) := by decide +kernel
theorem dX6_load_65 : decode cX6_load 65 = .ok (.iload_n 1, 1) := by decide +kernel
theorem dX6_load_66 : decode cX6_load 66 = .ok (.aaload, 1) := by decide +kernel
theorem dX6_load_67 : decode cX6_load 67 = .ok (.aload_n 0, 1) := by decide +kernel
theorem dX6_load_68 : decode cX6_load 68 = .ok (.getfield 17, 3) := by decide +kernel
theorem dX6_load_71 : decode cX6_load 71 = .ok (.iload_n 2, 1) := by decide +kernel
theorem dX6_load_72 : decode cX6_load 72 = .ok (.aaload, 1) := by decide +kernel
theorem dX6_load_73 : decode cX6_load 73 = .ok (.getfield 113, 3) := by decide +kernel
theorem dX6_load_76 : decode cX6_load 76 = .ok (.iload_n 3, 1) := by decide +kernel
theorem dX6_load_77 : decode cX6_load 77 = .ok (.invokevirtual 95, 3) := by decide +kernel
theorem dX6_load_80 : decode cX6_load 80 = .ok (.iload_n 3, 1) := by decide +kernel
theorem dX6_load_81 : decode cX6_load 81 = .ok (.ireturn, 1) := by decide +kernel
set_option maxRecDepth 20000 in
theorem ggX6_drop_X6_isRow : GoodIn wsX6_drop wsX6_isRow := goodIn_r _ [5] (by decide +kernel) (by decide +kernel)
set_option maxRecDepth 20000 in
theorem gX6_drop_X6_isRow : GoodIn wsX6_drop (va_wsS RX6 58 yX6_isRow wsX6_isRow) := goodIn_app (goodIn_of _ (by decide +kernel)) ggX6_drop_X6_isRow
set_option maxRecDepth 20000 in
theorem ggX6_drop_X3_isNone : GoodIn wsX6_drop wsX3_isNone := goodIn_r _ [10, 11, 20, 21] (by decide +kernel) (by decide +kernel)
set_option maxRecDepth 20000 in
theorem gX6_drop_X3_isNone : GoodIn wsX6_drop (wsV RX6 116 RX3 yX3_isNone wsX3_isNone) := goodIn_app (goodIn_of _ (by decide +kernel)) ggX6_drop_X3_isNone
theorem dX6_drop_0 : decode cX6_drop 0 = .ok (.iload_n 1, 1) := by decide +kernel
theorem dX6_drop_1 : decode cX6_drop 1 = .ok (.invokestatic 58, 3) := by decide +kernel
theorem dX6_drop_4 : decode cX6_drop 4 = .ok (.ifCond .ne 6, 3) := by decide +kernel
theorem dX6_drop_7 : decode cX6_drop 7 = .ok (.bipush (-2), 2) := by decide +kernel
theorem dX6_drop_9 : decode cX6_drop 9 = .ok (.ireturn, 1) := by decide +kernel
theorem dX6_drop_10 : decode cX6_drop 10 = .ok (.aload_n 0, 1) := by decide +kernel
theorem dX6_drop_11 : decode cX6_drop 11 = .ok (.getfield 11, 3) := by decide +kernel
theorem dX6_drop_14 : decode cX6_drop 14 = .ok (.iload_n 1, 1) := by decide +kernel
theorem dX6_drop_15 : decode cX6_drop 15 = .ok (.aaload, 1) := by decide +kernel
theorem dX6_drop_16 : decode cX6_drop 16 = .ok (.invokevirtual 116, 3) := by decide +kernel
theorem dX6_drop_19 : decode cX6_drop 19 = .ok (.ifCond .eq 6, 3) := by decide +kernel
theorem dX6_drop_22 : decode cX6_drop 22 = .ok (.bipush (-3), 2) := by decide +kernel
theorem dX6_drop_24 : decode cX6_drop 24 = .ok (.ireturn, 1) := by decide +kernel
theorem dX6_drop_25 : decode cX6_drop 25 = .ok (.aload_n 0, 1) := by decide +kernel
theorem dX6_drop_26 : decode cX6_drop 26 = .ok (.getfield 11, 3) := by decide +kernel
theorem dX6_drop_29 : decode cX6_drop 29 = .ok (.iload_n 1, 1) := by decide +kernel
theorem dX6_drop_30 : decode cX6_drop 30 = .ok (.aaload, 1) := by decide +kernel
theorem dX6_drop_31 : decode cX6_drop 31 = .ok (.getfield 70, 3) := by decide +kernel
theorem dX6_drop_34 : decode cX6_drop 34 = .ok (.istore_n 2, 1) := by decide +kernel
theorem dX6_drop_35 : decode cX6_drop 35 = .ok (.aload_n 0, 1) := by decide +kernel
theorem dX6_drop_36 : decode cX6_drop 36 = .ok (.getfield 11, 3) := by decide +kernel
theorem dX6_drop_39 : decode cX6_drop 39 = .ok (.iload_n 1, 1) := by decide +kernel
theorem dX6_drop_40 : decode cX6_drop 40 = .ok (.aaload, 1) := by decide +kernel
theorem dX6_drop_41 : decode cX6_drop 41 = .ok (.iconst 0, 1) := by decide +kernel
theorem dX6_drop_42 : decode cX6_drop 42 = .ok (.putfield 70, 3) := by decide +kernel
theorem dX6_drop_45 : decode cX6_drop 45 = .ok (.iload_n 2, 1) := by decide +kernel
theorem dX6_drop_46 : decode cX6_drop 46 = .ok (.ireturn, 1) := by decide +kernel
set_option maxRecDepth 20000 in
theorem ggX6_sign_X6_isRow : GoodIn wsX6_sign wsX6_isRow := goodIn_r _ [5] (by decide +kernel) (by decide +kernel)
set_option maxRecDepth 20000 in
theorem gX6_sign_X6_isRow : GoodIn wsX6_sign (va_wsS RX6 58 yX6_isRow wsX6_isRow) := goodIn_app (goodIn_of _ (by decide +kernel)) ggX6_sign_X6_isRow
set_option maxRecDepth 20000 in
theorem ggX6_sign_X6_isShift : GoodIn wsX6_sign wsX6_isShift := goodIn_r _ [8] (by decide +kernel) (by decide +kernel)
set_option maxRecDepth 20000 in
theorem gX6_sign_X6_isShift : GoodIn wsX6_sign (va_wsS RX6 80 yX6_isShift wsX6_isShift) := goodIn_app (goodIn_of _ (by decide +kernel)) ggX6_sign_X6_isShift
set_option maxRecDepth 20000 in
theorem ggX6_sign_X3_isNone : GoodIn wsX6_sign wsX3_isNone := goodIn_r _ [13, 14, 32, 33] (by decide +kernel) (by decide +kernel)
set_option maxRecDepth 20000 in
theorem gX6_sign_X3_isNone : GoodIn wsX6_sign (wsV RX6 116 RX3 yX3_isNone wsX3_isNone) := goodIn_app (goodIn_of _ (by decide +kernel)) ggX6_sign_X3_isNone
set_option maxRecDepth 20000 in
theorem ggX6_sign_X3_signAt : GoodIn wsX6_sign wsX3_signAt := goodIn_r _ [18, 14, 19, 20, 21, 22, 23, 32, 33] (by decide +kernel) (by decide +kernel)
set_option maxRecDepth 20000 in
theorem gX6_sign_X3_signAt : GoodIn wsX6_sign (wsV RX6 91 RX3 yX3_signAt wsX3_signAt) := goodIn_app (goodIn_of _ (by decide +kernel)) ggX6_sign_X3_signAt
theorem dX6_sign_0 : decode cX6_sign 0 = .ok (.iload_n 1, 1) := by decide +kernel
theorem dX6_sign_1 : decode cX6_sign 1 = .ok (.invokestatic 58, 3) := by decide +kernel
theorem dX6_sign_4 : decode cX6_sign 4 = .ok (.ifCond .eq 10, 3) := by decide +kernel
theorem dX6_sign_7 : decode cX6_sign 7 = .ok (.iload_n 2, 1) := by decide +kernel
theorem dX6_sign_8 : decode cX6_sign 8 = .ok (.invokestatic 80, 3) := by decide +kernel
theorem dX6_sign_11 : decode cX6_sign 11 = .ok (.ifCond .ne 6, 3) := by decide +kernel
theorem dX6_sign_14 : decode cX6_sign 14 = .ok (.bipush (-2), 2) := by decide +kernel
theorem dX6_sign_16 : decode cX6_sign 16 = .ok (.ireturn, 1) := by decide +kernel
theorem dX6_sign_17 : decode cX6_sign 17 = .ok (.aload_n 0, 1) := by decide +kernel
theorem dX6_sign_18 : decode cX6_sign 18 = .ok (.getfield 11, 3) := by decide +kernel
theorem dX6_sign_21 : decode cX6_sign 21 = .ok (.iload_n 1, 1) := by decide +kernel
theorem dX6_sign_22 : decode cX6_sign 22 = .ok (.aaload, 1) := by decide +kernel
theorem dX6_sign_23 : decode cX6_sign 23 = .ok (.invokevirtual 116, 3) := by decide +kernel
theorem dX6_sign_26 : decode cX6_sign 26 = .ok (.ifCond .eq 8, 3) := by decide +kernel
theorem dX6_sign_29 : decode cX6_sign 29 = .ok (.bipush (-3), 2) := by decide +kernel
theorem dX6_sign_31 : decode cX6_sign 31 = .ok (.goto 13, 3) := by decide +kernel
theorem dX6_sign_34 : decode cX6_sign 34 = .ok (.aload_n 0, 1) := by decide +kernel
theorem dX6_sign_35 : decode cX6_sign 35 = .ok (.getfield 11, 3) := by decide +kernel
theorem dX6_sign_38 : decode cX6_sign 38 = .ok (.iload_n 1, 1) := by decide +kernel
theorem dX6_sign_39 : decode cX6_sign 39 = .ok (.aaload, 1) := by decide +kernel
theorem dX6_sign_40 : decode cX6_sign 40 = .ok (.iload_n 2, 1) := by decide +kernel
theorem dX6_sign_41 : decode cX6_sign 41 = .ok (.invokevirtual 91, 3) := by decide +kernel
theorem dX6_sign_44 : decode cX6_sign 44 = .ok (.ireturn, 1) := by decide +kernel
set_option maxRecDepth 20000 in
theorem ggX6_like_X6_isRow : GoodIn wsX6_like wsX6_isRow := goodIn_r _ [5] (by decide +kernel) (by decide +kernel)
set_option maxRecDepth 20000 in
theorem gX6_like_X6_isRow : GoodIn wsX6_like (va_wsS RX6 58 yX6_isRow wsX6_isRow) := goodIn_app (goodIn_of _ (by decide +kernel)) ggX6_like_X6_isRow
set_option maxRecDepth 20000 in
theorem ggX6_like_X6_isShift : GoodIn wsX6_like wsX6_isShift := goodIn_r _ [8] (by decide +kernel) (by decide +kernel)
set_option maxRecDepth 20000 in
theorem gX6_like_X6_isShift : GoodIn wsX6_like (va_wsS RX6 80 yX6_isShift wsX6_isShift) := goodIn_app (goodIn_of _ (by decide +kernel)) ggX6_like_X6_isShift
set_option maxRecDepth 20000 in
theorem ggX6_like_X6_arePaired : GoodIn wsX6_like wsX6_arePaired := goodIn_r _ [12, 1, 13, 14, 15, 16, 17, 18, 28, 29, 30, 31, 32, 33, 34, 35, 36, 37] (by decide +kernel) (by decide +kernel)
set_option maxRecDepth 20000 in
theorem gX6_like_X6_arePaired : GoodIn wsX6_like (wsV RX6 83 RX6 yX6_arePaired wsX6_arePaired) := goodIn_app (goodIn_of _ (by decide +kernel)) ggX6_like_X6_arePaired
set_option maxRecDepth 20000 in
theorem ggX6_like_X3_sumOver : GoodIn wsX6_like wsX3_sumOver := goodIn_r _ [22, 18, 23, 24, 25, 26, 27, 36, 37] (by decide +kernel) (by decide +kernel)
set_option maxRecDepth 20000 in
theorem gX6_like_X3_sumOver : GoodIn wsX6_like (wsV RX6 123 RX3 yX3_sumOver wsX3_sumOver) := goodIn_app (goodIn_of _ (by decide +kernel)) ggX6_like_X3_sumOver
theorem dX6_like_0 : decode cX6_like 0 = .ok (.iload_n 1, 1) := by decide +kernel
theorem dX6_like_1 : decode cX6_like 1 = .ok (.invokestatic 58, 3) := by decide +kernel
theorem dX6_like_4 : decode cX6_like 4 = .ok (.ifCond .eq 17, 3) := by decide +kernel
theorem dX6_like_7 : decode cX6_like 7 = .ok (.iload_n 2, 1) := by decide +kernel
theorem dX6_like_8 : decode cX6_like 8 = .ok (.invokestatic 58, 3) := by decide +kernel
theorem dX6_like_11 : decode cX6_like 11 = .ok (.ifCond .eq 10, 3) := by decide +kernel
theorem dX6_like_14 : decode cX6_like 14 = .ok (.iload_n 3, 1) := by decide +kernel
theorem dX6_like_15 : decode cX6_like 15 = .ok (.invokestatic 80, 3) := by decide +kernel
theorem dX6_like_18 : decode cX6_like 18 = .ok (.ifCond .ne 7, 3) := by decide +kernel
theorem dX6_like_21 : decode cX6_like 21 = .ok (.sipush (-1002), 3) := by decide +kernel
theorem dX6_like_24 : decode cX6_like 24 = .ok (.ireturn, 1) := by decide +kernel
theorem dX6_like_25 : decode cX6_like 25 = .ok (.aload_n 0, 1) := by decide +kernel
theorem dX6_like_26 : decode cX6_like 26 = .ok (.iload_n 1, 1) := by decide +kernel
theorem dX6_like_27 : decode cX6_like 27 = .ok (.iload_n 2, 1) := by decide +kernel
theorem dX6_like_28 : decode cX6_like 28 = .ok (.invokevirtual 83, 3) := by decide +kernel
theorem dX6_like_31 : decode cX6_like 31 = .ok (.ifCond .eq 25, 3) := by decide +kernel
theorem dX6_like_34 : decode cX6_like 34 = .ok (.aload_n 0, 1) := by decide +kernel
theorem dX6_like_35 : decode cX6_like 35 = .ok (.getfield 11, 3) := by decide +kernel
theorem dX6_like_38 : decode cX6_like 38 = .ok (.iload_n 2, 1) := by decide +kernel
theorem dX6_like_39 : decode cX6_like 39 = .ok (.aaload, 1) := by decide +kernel
theorem dX6_like_40 : decode cX6_like 40 = .ok (.aload_n 0, 1) := by decide +kernel
theorem dX6_like_41 : decode cX6_like 41 = .ok (.getfield 11, 3) := by decide +kernel
theorem dX6_like_44 : decode cX6_like 44 = .ok (.iload_n 1, 1) := by decide +kernel
theorem dX6_like_45 : decode cX6_like 45 = .ok (.aaload, 1) := by decide +kernel
theorem dX6_like_46 : decode cX6_like 46 = .ok (.getfield 120, 3) := by decide +kernel
theorem dX6_like_49 : decode cX6_like 49 = .ok (.iload_n 3, 1) := by decide +kernel
theorem dX6_like_50 : decode cX6_like 50 = .ok (.invokevirtual 123, 3) := by decide +kernel
theorem dX6_like_53 : decode cX6_like 53 = .ok (.goto 6, 3) := by decide +kernel
theorem dX6_like_56 : decode cX6_like 56 = .ok (.sipush (-1003), 3) := by decide +kernel
theorem dX6_like_59 : decode cX6_like 59 = .ok (.ireturn, 1) := by decide +kernel
set_option maxRecDepth 20000 in
theorem ggX6_most_X6_isRow : GoodIn wsX6_most wsX6_isRow := goodIn_r _ [12] (by decide +kernel) (by decide +kernel)
set_option maxRecDepth 20000 in
theorem gX6_most_X6_isRow : GoodIn wsX6_most (va_wsS RX6 58 yX6_isRow wsX6_isRow) := goodIn_app (goodIn_of _ (by decide +kernel)) ggX6_most_X6_isRow
set_option maxRecDepth 20000 in
theorem ggX6_most_X6_arePaired : GoodIn wsX6_most wsX6_arePaired := goodIn_r _ [16, 1, 17, 18, 19, 20, 21, 22, 32, 33, 34, 35, 36, 37, 38, 39, 40, 41] (by decide +kernel) (by decide +kernel)
set_option maxRecDepth 20000 in
theorem gX6_most_X6_arePaired : GoodIn wsX6_most (wsV RX6 83 RX6 yX6_arePaired wsX6_arePaired) := goodIn_app (goodIn_of _ (by decide +kernel)) ggX6_most_X6_arePaired
set_option maxRecDepth 20000 in
theorem ggX6_most_X3_sumOver : GoodIn wsX6_most wsX3_sumOver := goodIn_r _ [26, 22, 27, 28, 29, 30, 31, 40, 41] (by decide +kernel) (by decide +kernel)
set_option maxRecDepth 20000 in
theorem gX6_most_X3_sumOver : GoodIn wsX6_most (wsV RX6 123 RX3 yX3_sumOver wsX3_sumOver) := goodIn_app (goodIn_of _ (by decide +kernel)) ggX6_most_X3_sumOver
theorem dX6_most_0 : decode cX6_most 0 = .ok (.iload_n 1, 1) := by decide +kernel
theorem dX6_most_1 : decode cX6_most 1 = .ok (.invokestatic 58, 3) := by decide +kernel
theorem dX6_most_4 : decode cX6_most 4 = .ok (.ifCond .eq 10, 3) := by decide +kernel
theorem dX6_most_7 : decode cX6_most 7 = .ok (.iload_n 2, 1) := by decide +kernel
theorem dX6_most_8 : decode cX6_most 8 = .ok (.invokestatic 58, 3) := by decide +kernel
theorem dX6_most_11 : decode cX6_most 11 = .ok (.ifCond .ne 6, 3) := by decide +kernel
theorem dX6_most_14 : decode cX6_most 14 = .ok (.bipush (-2), 2) := by decide +kernel
theorem dX6_most_16 : decode cX6_most 16 = .ok (.ireturn, 1) := by decide +kernel
theorem dX6_most_17 : decode cX6_most 17 = .ok (.aload_n 0, 1) := by decide +kernel
theorem dX6_most_18 : decode cX6_most 18 = .ok (.iload_n 1, 1) := by decide +kernel
theorem dX6_most_19 : decode cX6_most 19 = .ok (.iload_n 2, 1) := by decide +kernel
theorem dX6_most_20 : decode cX6_most 20 = .ok (.invokevirtual 83, 3) := by decide +kernel
theorem dX6_most_23 : decode cX6_most 23 = .ok (.ifCond .ne 6, 3) := by decide +kernel
theorem dX6_most_26 : decode cX6_most 26 = .ok (.bipush (-3), 2) := by decide +kernel
theorem dX6_most_28 : decode cX6_most 28 = .ok (.ireturn, 1) := by decide +kernel
theorem dX6_most_29 : decode cX6_most 29 = .ok (.iconst 0, 1) := by decide +kernel
theorem dX6_most_30 : decode cX6_most 30 = .ok (.istore_n 3, 1) := by decide +kernel
theorem dX6_most_31 : decode cX6_most 31 = .ok (.iload_n 1, 1) := by decide +kernel
theorem dX6_most_32 : decode cX6_most 32 = .ok (.iload_n 2, 1) := by decide +kernel
theorem dX6_most_33 : decode cX6_most 33 = .ok (.if_icmp .ne 7, 3) := by decide +kernel
theorem dX6_most_36 : decode cX6_most 36 = .ok (.iconst 1, 1) := by decide +kernel
theorem dX6_most_37 : decode cX6_most 37 = .ok (.goto 4, 3) := by decide +kernel
theorem dX6_most_40 : decode cX6_most 40 = .ok (.iconst 0, 1) := by decide +kernel
theorem dX6_most_41 : decode cX6_most 41 = .ok (.istore 4, 2) := by decide +kernel
theorem dX6_most_43 : decode cX6_most 43 = .ok (.iload 4, 2) := by decide +kernel
theorem dX6_most_45 : decode cX6_most 45 = .ok (.aload_n 0, 1) := by decide +kernel
theorem dX6_most_46 : decode cX6_most 46 = .ok (.getfield 11, 3) := by decide +kernel
theorem dX6_most_49 : decode cX6_most 49 = .ok (.iload_n 1, 1) := by decide +kernel
theorem dX6_most_50 : decode cX6_most 50 = .ok (.aaload, 1) := by decide +kernel
theorem dX6_most_51 : decode cX6_most 51 = .ok (.getfield 70, 3) := by decide +kernel
theorem dX6_most_54 : decode cX6_most 54 = .ok (.if_icmp .ge 37, 3) := by decide +kernel
theorem dX6_most_57 : decode cX6_most 57 = .ok (.iload_n 3, 1) := by decide +kernel
theorem dX6_most_58 : decode cX6_most 58 = .ok (.aload_n 0, 1) := by decide +kernel
theorem dX6_most_59 : decode cX6_most 59 = .ok (.getfield 11, 3) := by decide +kernel
theorem dX6_most_62 : decode cX6_most 62 = .ok (.iload_n 2, 1) := by decide +kernel
theorem dX6_most_63 : decode cX6_most 63 = .ok (.aaload, 1) := by decide +kernel
theorem dX6_most_64 : decode cX6_most 64 = .ok (.aload_n 0, 1) := by decide +kernel
theorem dX6_most_65 : decode cX6_most 65 = .ok (.getfield 11, 3) := by decide +kernel
theorem dX6_most_68 : decode cX6_most 68 = .ok (.iload_n 1, 1) := by decide +kernel
theorem dX6_most_69 : decode cX6_most 69 = .ok (.aaload, 1) := by decide +kernel
theorem dX6_most_70 : decode cX6_most 70 = .ok (.getfield 120, 3) := by decide +kernel
theorem dX6_most_73 : decode cX6_most 73 = .ok (.iload 4, 2) := by decide +kernel
theorem dX6_most_75 : decode cX6_most 75 = .ok (.invokevirtual 123, 3) := by decide +kernel
theorem dX6_most_78 : decode cX6_most 78 = .ok (.invokestatic 127, 3) := by decide +kernel
theorem dX6_most_81 : decode cX6_most 81 = .ok (.invokestatic 132, 3) := by decide +kernel
theorem dX6_most_84 : decode cX6_most 84 = .ok (.istore_n 3, 1) := by decide +kernel
theorem dX6_most_85 : decode cX6_most 85 = .ok (.iinc 4 1, 3) := by decide +kernel
theorem dX6_most_88 : decode cX6_most 88 = .ok (.goto (-45), 3) := by decide +kernel
theorem dX6_most_91 : decode cX6_most 91 = .ok (.iload_n 3, 1) := by decide +kernel
theorem dX6_most_92 : decode cX6_most 92 = .ok (.ireturn, 1) := by decide +kernel
set_option maxRecDepth 20000 in
theorem ggX6_heard_X6_isRow : GoodIn wsX6_heard wsX6_isRow := goodIn_r _ [7] (by decide +kernel) (by decide +kernel)
set_option maxRecDepth 20000 in
theorem gX6_heard_X6_isRow : GoodIn wsX6_heard (va_wsS RX6 58 yX6_isRow wsX6_isRow) := goodIn_app (goodIn_of _ (by decide +kernel)) ggX6_heard_X6_isRow
set_option maxRecDepth 20000 in
theorem ggX6_heard_X6_isPlace : GoodIn wsX6_heard wsX6_isPlace := goodIn_r _ [10] (by decide +kernel) (by decide +kernel)
set_option maxRecDepth 20000 in
theorem gX6_heard_X6_isPlace : GoodIn wsX6_heard (va_wsS RX6 136 yX6_isPlace wsX6_isPlace) := goodIn_app (goodIn_of _ (by decide +kernel)) ggX6_heard_X6_isPlace
set_option maxRecDepth 20000 in
theorem ggX6_heard_X6_isShift : GoodIn wsX6_heard wsX6_isShift := goodIn_r _ [13] (by decide +kernel) (by decide +kernel)
set_option maxRecDepth 20000 in
theorem gX6_heard_X6_isShift : GoodIn wsX6_heard (va_wsS RX6 80 yX6_isShift wsX6_isShift) := goodIn_app (goodIn_of _ (by decide +kernel)) ggX6_heard_X6_isShift
set_option maxRecDepth 20000 in
theorem ggX6_heard_X3_isNone : GoodIn wsX6_heard wsX3_isNone := goodIn_r _ [18, 19, 67, 68] (by decide +kernel) (by decide +kernel)
set_option maxRecDepth 20000 in
theorem gX6_heard_X3_isNone : GoodIn wsX6_heard (wsV RX6 116 RX3 yX3_isNone wsX3_isNone) := goodIn_app (goodIn_of _ (by decide +kernel)) ggX6_heard_X3_isNone
set_option maxRecDepth 20000 in
theorem ggX6_heard_X6_listen : GoodIn wsX6_heard wsX6_listen := goodIn_r _ [23, 3, 24, 25, 26, 27, 28, 29, 30, 31, 32, 33, 34, 35, 36, 37, 38, 6, 39, 59, 60, 61, 62, 63, 64, 65, 66, 69, 70, 71, 72, 73, 74, 75, 76, 77] (by decide +kernel) (by decide +kernel)
set_option maxRecDepth 20000 in
theorem gX6_heard_X6_listen : GoodIn wsX6_heard (wsV RX6 142 RX6 yX6_listen wsX6_listen) := goodIn_app (goodIn_of _ (by decide +kernel)) ggX6_heard_X6_listen
set_option maxRecDepth 20000 in
theorem ggX6_heard_X5_turnBack : GoodIn wsX6_heard wsX5_turnBack := goodIn_r _ [44, 45, 46, 47, 48, 49, 69, 70, 71, 72, 73] (by decide +kernel) (by decide +kernel)
set_option maxRecDepth 20000 in
theorem gX6_heard_X5_turnBack : GoodIn wsX6_heard (wsV RX6 146 RX5 yX5_turnBack wsX5_turnBack) := goodIn_app (goodIn_of _ (by decide +kernel)) ggX6_heard_X5_turnBack
set_option maxRecDepth 20000 in
theorem ggX6_heard_X3_sumOver : GoodIn wsX6_heard wsX3_sumOver := goodIn_r _ [53, 19, 54, 55, 56, 57, 58, 67, 68] (by decide +kernel) (by decide +kernel)
set_option maxRecDepth 20000 in
theorem gX6_heard_X3_sumOver : GoodIn wsX6_heard (wsV RX6 123 RX3 yX3_sumOver wsX3_sumOver) := goodIn_app (goodIn_of _ (by decide +kernel)) ggX6_heard_X3_sumOver
theorem dX6_heard_0 : decode cX6_heard 0 = .ok (.iload_n 1, 1) := by decide +kernel
theorem dX6_heard_1 : decode cX6_heard 1 = .ok (.invokestatic 58, 3) := by decide +kernel
theorem dX6_heard_4 : decode cX6_heard 4 = .ok (.ifCond .eq 51, 3) := by decide +kernel
theorem dX6_heard_7 : decode cX6_heard 7 = .ok (.iload_n 2, 1) := by decide +kernel
theorem dX6_heard_8 : decode cX6_heard 8 = .ok (.invokestatic 136, 3) := by decide +kernel
theorem dX6_heard_11 : decode cX6_heard 11 = .ok (.ifCond .eq 44, 3) := by decide +kernel
theorem dX6_heard_14 : decode cX6_heard 14 = .ok (.iload_n 3, 1) := by decide +kernel
theorem dX6_heard_15 : decode cX6_heard 15 = .ok (.invokestatic 80, 3) := by decide +kernel
theorem dX6_heard_18 : decode cX6_heard 18 = .ok (.ifCond .eq 37, 3) := by decide +kernel
theorem dX6_heard_21 : decode cX6_heard 21 = .ok (.iload 4, 2) := by decide +kernel
theorem dX6_heard_23 : decode cX6_heard 23 = .ok (.ifCond .lt 32, 3) := by decide +kernel
theorem dX6_heard_26 : decode cX6_heard 26 = .ok (.iload 4, 2) := by decide +kernel
theorem dX6_heard_28 : decode cX6_heard 28 = .ok (.iconst 4, 1) := by decide +kernel
theorem dX6_heard_29 : decode cX6_heard 29 = .ok (.if_icmp .ge 26, 3) := by decide +kernel
theorem dX6_heard_32 : decode cX6_heard 32 = .ok (.iload 5, 2) := by decide +kernel
theorem dX6_heard_34 : decode cX6_heard 34 = .ok (.ifCond .lt 21, 3) := by decide +kernel
theorem dX6_heard_37 : decode cX6_heard 37 = .ok (.iload 5, 2) := by decide +kernel
theorem dX6_heard_39 : decode cX6_heard 39 = .ok (.iconst 1, 1) := by decide +kernel
theorem dX6_heard_40 : decode cX6_heard 40 = .ok (.if_icmp .gt 15, 3) := by decide +kernel
theorem dX6_heard_43 : decode cX6_heard 43 = .ok (.aload_n 0, 1) := by decide +kernel
theorem dX6_heard_44 : decode cX6_heard 44 = .ok (.getfield 11, 3) := by decide +kernel
theorem dX6_heard_47 : decode cX6_heard 47 = .ok (.iload_n 1, 1) := by decide +kernel
theorem dX6_heard_48 : decode cX6_heard 48 = .ok (.aaload, 1) := by decide +kernel
theorem dX6_heard_49 : decode cX6_heard 49 = .ok (.invokevirtual 116, 3) := by decide +kernel
theorem dX6_heard_52 : decode cX6_heard 52 = .ok (.ifCond .eq 6, 3) := by decide +kernel
theorem dX6_heard_55 : decode cX6_heard 55 = .ok (.ldc 141, 2) := by decide +kernel
theorem dX6_heard_57 : decode cX6_heard 57 = .ok (.ireturn, 1) := by decide +kernel
theorem dX6_heard_58 : decode cX6_heard 58 = .ok (.aload_n 0, 1) := by decide +kernel
theorem dX6_heard_59 : decode cX6_heard 59 = .ok (.iload_n 2, 1) := by decide +kernel
theorem dX6_heard_60 : decode cX6_heard 60 = .ok (.aload_n 0, 1) := by decide +kernel
theorem dX6_heard_61 : decode cX6_heard 61 = .ok (.getfield 11, 3) := by decide +kernel
theorem dX6_heard_64 : decode cX6_heard 64 = .ok (.iload_n 1, 1) := by decide +kernel
theorem dX6_heard_65 : decode cX6_heard 65 = .ok (.aaload, 1) := by decide +kernel
theorem dX6_heard_66 : decode cX6_heard 66 = .ok (.getfield 70, 3) := by decide +kernel
theorem dX6_heard_69 : decode cX6_heard 69 = .ok (.invokevirtual 142, 3) := by decide +kernel
theorem dX6_heard_72 : decode cX6_heard 72 = .ok (.aload_n 0, 1) := by decide +kernel
theorem dX6_heard_73 : decode cX6_heard 73 = .ok (.getfield 24, 3) := by decide +kernel
theorem dX6_heard_76 : decode cX6_heard 76 = .ok (.iload 4, 2) := by decide +kernel
theorem dX6_heard_78 : decode cX6_heard 78 = .ok (.invokevirtual 146, 3) := by decide +kernel
theorem dX6_heard_81 : decode cX6_heard 81 = .ok (.aload_n 0, 1) := by decide +kernel
theorem dX6_heard_82 : decode cX6_heard 82 = .ok (.getfield 11, 3) := by decide +kernel
theorem dX6_heard_85 : decode cX6_heard 85 = .ok (.iload_n 1, 1) := by decide +kernel
theorem dX6_heard_86 : decode cX6_heard 86 = .ok (.aaload, 1) := by decide +kernel
theorem dX6_heard_87 : decode cX6_heard 87 = .ok (.iload 5, 2) := by decide +kernel
theorem dX6_heard_89 : decode cX6_heard 89 = .ok (.ifCond .ne 13, 3) := by decide +kernel
theorem dX6_heard_92 : decode cX6_heard 92 = .ok (.aload_n 0, 1) := by decide +kernel
theorem dX6_heard_93 : decode cX6_heard 93 = .ok (.getfield 24, 3) := by decide +kernel
theorem dX6_heard_96 : decode cX6_heard 96 = .ok (.getfield 150, 3) := by decide +kernel
theorem dX6_heard_99 : decode cX6_heard 99 = .ok (.goto 10, 3) := by decide +kernel
theorem dX6_heard_102 : decode cX6_heard 102 = .ok (.aload_n 0, 1) := by decide +kernel
theorem dX6_heard_103 : decode cX6_heard 103 = .ok (.getfield 24, 3) := by decide +kernel
theorem dX6_heard_106 : decode cX6_heard 106 = .ok (.getfield 153, 3) := by decide +kernel
theorem dX6_heard_109 : decode cX6_heard 109 = .ok (.iload_n 3, 1) := by decide +kernel
theorem dX6_heard_110 : decode cX6_heard 110 = .ok (.invokevirtual 123, 3) := by decide +kernel
theorem dX6_heard_113 : decode cX6_heard 113 = .ok (.ireturn, 1) := by decide +kernel
set_option maxRecDepth 20000 in
theorem ggX6_search_X6_searchFor : GoodIn wsX6_search wsX6_searchFor := goodIn_r _ [6, 7, 1, 8, 9, 10, 5, 11, 12, 13, 14, 15, 16, 17, 18, 19, 20, 21, 22, 23, 24, 25, 26, 27, 28, 29, 30, 31, 32, 33, 34, 35, 36, 37, 38, 39, 40, 41, 42, 43, 44, 45, 46, 47, 48, 49, 50, 51, 52, 53, 54, 55, 56, 57, 58, 59, 60, 61, 62, 63, 64, 65, 66, 67, 68, 69, 70, 71, 72, 73, 74, 75, 76, 77, 78, 79, 80, 81, 86, 87, 88, 89, 90, 91, 92, 93, 94, 95, 96, 82, 83, 84, 85] (by decide +kernel) (by decide +kernel)
set_option maxRecDepth 20000 in
theorem gX6_search_X6_searchFor : GoodIn wsX6_search (wsV RX6 156 RX6 yX6_searchFor wsX6_searchFor) := goodIn_app (goodIn_of _ (by decide +kernel)) ggX6_search_X6_searchFor
theorem dX6_search_0 : decode cX6_search 0 = .ok (.aload_n 0, 1) := by decide +kernel
theorem dX6_search_1 : decode cX6_search 1 = .ok (.iload_n 1, 1) := by decide +kernel
theorem dX6_search_2 : decode cX6_search 2 = .ok (.iload_n 2, 1) := by decide +kernel
theorem dX6_search_3 : decode cX6_search 3 = .ok (.invokevirtual 156, 3) := by decide +kernel
theorem dX6_search_6 : decode cX6_search 6 = .ok (.istore_n 3, 1) := by decide +kernel
theorem dX6_search_7 : decode cX6_search 7 = .ok (.iload_n 3, 1) := by decide +kernel
theorem dX6_search_8 : decode cX6_search 8 = .ok (.ifCond .ne 25, 3) := by decide +kernel
theorem dX6_search_11 : decode cX6_search 11 = .ok (.sipush 1000, 3) := by decide +kernel
theorem dX6_search_14 : decode cX6_search 14 = .ok (.aload_n 0, 1) := by decide +kernel
theorem dX6_search_15 : decode cX6_search 15 = .ok (.getfield 31, 3) := by decide +kernel
theorem dX6_search_18 : decode cX6_search 18 = .ok (.getfield 159, 3) := by decide +kernel
theorem dX6_search_21 : decode cX6_search 21 = .ok (.imul, 1) := by decide +kernel
theorem dX6_search_22 : decode cX6_search 22 = .ok (.aload_n 0, 1) := by decide +kernel
theorem dX6_search_23 : decode cX6_search 23 = .ok (.getfield 31, 3) := by decide +kernel
theorem dX6_search_26 : decode cX6_search 26 = .ok (.getfield 162, 3) := by decide +kernel
theorem dX6_search_29 : decode cX6_search 29 = .ok (.iadd, 1) := by decide +kernel
theorem dX6_search_30 : decode cX6_search 30 = .ok (.goto 4, 3) := by decide +kernel
theorem dX6_search_33 : decode cX6_search 33 = .ok (.iload_n 3, 1) := by decide +kernel
theorem dX6_search_34 : decode cX6_search 34 = .ok (.ireturn, 1) := by decide +kernel
set_option maxRecDepth 20000 in
theorem ggX6_sure_X6_searchFor : GoodIn wsX6_sure wsX6_searchFor := goodIn_r _ [8, 9, 1, 10, 11, 12, 7, 13, 14, 15, 16, 17, 18, 19, 20, 21, 22, 23, 24, 25, 26, 27, 28, 29, 30, 31, 32, 33, 34, 35, 36, 37, 38, 39, 40, 41, 42, 43, 44, 45, 46, 47, 48, 49, 50, 51, 52, 53, 54, 55, 56, 57, 58, 59, 60, 61, 62, 63, 64, 65, 66, 67, 68, 69, 70, 71, 72, 73, 74, 75, 76, 77, 78, 79, 80, 81, 82, 83, 88, 89, 90, 91, 92, 93, 94, 95, 96, 97, 98, 84, 85, 86, 87] (by decide +kernel) (by decide +kernel)
set_option maxRecDepth 20000 in
theorem gX6_sure_X6_searchFor : GoodIn wsX6_sure (wsV RX6 156 RX6 yX6_searchFor wsX6_searchFor) := goodIn_app (goodIn_of _ (by decide +kernel)) ggX6_sure_X6_searchFor
theorem dX6_sure_0 : decode cX6_sure 0 = .ok (.aload_n 0, 1) := by decide +kernel
theorem dX6_sure_1 : decode cX6_sure 1 = .ok (.iload_n 1, 1) := by decide +kernel
theorem dX6_sure_2 : decode cX6_sure 2 = .ok (.iload_n 2, 1) := by decide +kernel
theorem dX6_sure_3 : decode cX6_sure 3 = .ok (.invokevirtual 156, 3) := by decide +kernel
theorem dX6_sure_6 : decode cX6_sure 6 = .ok (.istore_n 3, 1) := by decide +kernel
theorem dX6_sure_7 : decode cX6_sure 7 = .ok (.iload_n 3, 1) := by decide +kernel
theorem dX6_sure_8 : decode cX6_sure 8 = .ok (.ifCond .eq 5, 3) := by decide +kernel
theorem dX6_sure_11 : decode cX6_sure 11 = .ok (.iload_n 3, 1) := by decide +kernel
theorem dX6_sure_12 : decode cX6_sure 12 = .ok (.ireturn, 1) := by decide +kernel
theorem dX6_sure_13 : decode cX6_sure 13 = .ok (.aload_n 0, 1) := by decide +kernel
theorem dX6_sure_14 : decode cX6_sure 14 = .ok (.getfield 31, 3) := by decide +kernel
theorem dX6_sure_17 : decode cX6_sure 17 = .ok (.getfield 165, 3) := by decide +kernel
theorem dX6_sure_20 : decode cX6_sure 20 = .ok (.lconst 0, 1) := by decide +kernel
theorem dX6_sure_21 : decode cX6_sure 21 = .ok (.lcmp, 1) := by decide +kernel
theorem dX6_sure_22 : decode cX6_sure 22 = .ok (.ifCond .le 35, 3) := by decide +kernel
theorem dX6_sure_25 : decode cX6_sure 25 = .ok (.ldc2_w 169, 3) := by decide +kernel
theorem dX6_sure_28 : decode cX6_sure 28 = .ok (.aload_n 0, 1) := by decide +kernel
theorem dX6_sure_29 : decode cX6_sure 29 = .ok (.getfield 31, 3) := by decide +kernel
theorem dX6_sure_32 : decode cX6_sure 32 = .ok (.getfield 171, 3) := by decide +kernel
theorem dX6_sure_35 : decode cX6_sure 35 = .ok (.lmul, 1) := by decide +kernel
theorem dX6_sure_36 : decode cX6_sure 36 = .ok (.aload_n 0, 1) := by decide +kernel
theorem dX6_sure_37 : decode cX6_sure 37 = .ok (.getfield 49, 3) := by decide +kernel
theorem dX6_sure_40 : decode cX6_sure 40 = .ok (.i2l, 1) := by decide +kernel
theorem dX6_sure_41 : decode cX6_sure 41 = .ok (.aload_n 0, 1) := by decide +kernel
theorem dX6_sure_42 : decode cX6_sure 42 = .ok (.getfield 31, 3) := by decide +kernel
theorem dX6_sure_45 : decode cX6_sure 45 = .ok (.getfield 165, 3) := by decide +kernel
theorem dX6_sure_48 : decode cX6_sure 48 = .ok (.lmul, 1) := by decide +kernel
theorem dX6_sure_49 : decode cX6_sure 49 = .ok (.lcmp, 1) := by decide +kernel
theorem dX6_sure_50 : decode cX6_sure 50 = .ok (.ifCond .gt 7, 3) := by decide +kernel
theorem dX6_sure_53 : decode cX6_sure 53 = .ok (.iconst 1, 1) := by decide +kernel
theorem dX6_sure_54 : decode cX6_sure 54 = .ok (.goto 4, 3) := by decide +kernel
theorem dX6_sure_57 : decode cX6_sure 57 = .ok (.iconst 0, 1) := by decide +kernel
theorem dX6_sure_58 : decode cX6_sure 58 = .ok (.ireturn, 1) := by decide +kernel
set_option maxRecDepth 20000 in
theorem ggX6_power_X6_searchFor : GoodIn wsX6_power wsX6_searchFor := goodIn_r _ [7, 8, 1, 9, 10, 11, 6, 12, 13, 14, 15, 16, 17, 18, 19, 20, 21, 22, 23, 24, 25, 26, 27, 28, 29, 30, 31, 32, 33, 34, 35, 36, 37, 38, 39, 40, 41, 42, 43, 44, 45, 46, 47, 48, 49, 50, 51, 52, 53, 54, 55, 56, 57, 58, 59, 60, 61, 62, 63, 64, 65, 66, 67, 68, 69, 70, 71, 72, 73, 74, 75, 76, 77, 78, 79, 80, 81, 82, 87, 88, 89, 90, 91, 92, 93, 94, 95, 96, 97, 83, 84, 85, 86] (by decide +kernel) (by decide +kernel)
set_option maxRecDepth 20000 in
theorem gX6_power_X6_searchFor : GoodIn wsX6_power (wsV RX6 156 RX6 yX6_searchFor wsX6_searchFor) := goodIn_app (goodIn_of _ (by decide +kernel)) ggX6_power_X6_searchFor
theorem dX6_power_0 : decode cX6_power 0 = .ok (.aload_n 0, 1) := by decide +kernel
theorem dX6_power_1 : decode cX6_power 1 = .ok (.iload_n 1, 1) := by decide +kernel
theorem dX6_power_2 : decode cX6_power 2 = .ok (.iload_n 2, 1) := by decide +kernel
theorem dX6_power_3 : decode cX6_power 3 = .ok (.invokevirtual 156, 3) := by decide +kernel
theorem dX6_power_6 : decode cX6_power 6 = .ok (.istore_n 3, 1) := by decide +kernel
theorem dX6_power_7 : decode cX6_power 7 = .ok (.iload_n 3, 1) := by decide +kernel
theorem dX6_power_8 : decode cX6_power 8 = .ok (.ifCond .ne 13, 3) := by decide +kernel
theorem dX6_power_11 : decode cX6_power 11 = .ok (.aload_n 0, 1) := by decide +kernel
end
section
theorem dX6_power_12 : decode cX6_power 12 = .ok (.getfield 31, 3) := by decide +kernel
theorem dX6_power_15 : decode cX6_power 15 = .ok (.getfield 165, 3) := by decide +kernel
theorem dX6_power_18 : decode cX6_power 18 = .ok (.goto 9, 3) := by decide +kernel
theorem dX6_power_21 : decode cX6_power 21 = .ok (.ldc2_w 176, 3) := by decide +kernel
theorem dX6_power_24 : decode cX6_power 24 = .ok (.iload_n 3, 1) := by decide +kernel
theorem dX6_power_25 : decode cX6_power 25 = .ok (.i2l, 1) := by decide +kernel
theorem dX6_power_26 : decode cX6_power 26 = .ok (.lsub, 1) := by decide +kernel
theorem dX6_power_27 : decode cX6_power 27 = .ok (.lreturn, 1) := by decide +kernel
theorem dX6_doubt_0 : decode cX6_doubt 0 = .ok (.iload_n 1, 1) := by decide +kernel
theorem dX6_doubt_1 : decode cX6_doubt 1 = .ok (.ifCond .lt 9, 3) := by decide +kernel
theorem dX6_doubt_4 : decode cX6_doubt 4 = .ok (.iload_n 1, 1) := by decide +kernel
theorem dX6_doubt_5 : decode cX6_doubt 5 = .ok (.bipush 100, 2) := by decide +kernel
theorem dX6_doubt_7 : decode cX6_doubt 7 = .ok (.if_icmp .le 6, 3) := by decide +kernel
theorem dX6_doubt_10 : decode cX6_doubt 10 = .ok (.bipush (-2), 2) := by decide +kernel
theorem dX6_doubt_12 : decode cX6_doubt 12 = .ok (.ireturn, 1) := by decide +kernel
theorem dX6_doubt_13 : decode cX6_doubt 13 = .ok (.aload_n 0, 1) := by decide +kernel
theorem dX6_doubt_14 : decode cX6_doubt 14 = .ok (.getfield 49, 3) := by decide +kernel
theorem dX6_doubt_17 : decode cX6_doubt 17 = .ok (.istore_n 2, 1) := by decide +kernel
theorem dX6_doubt_18 : decode cX6_doubt 18 = .ok (.aload_n 0, 1) := by decide +kernel
theorem dX6_doubt_19 : decode cX6_doubt 19 = .ok (.iload_n 1, 1) := by decide +kernel
theorem dX6_doubt_20 : decode cX6_doubt 20 = .ok (.putfield 49, 3) := by decide +kernel
theorem dX6_doubt_23 : decode cX6_doubt 23 = .ok (.iload_n 2, 1) := by decide +kernel
theorem dX6_doubt_24 : decode cX6_doubt 24 = .ok (.ireturn, 1) := by decide +kernel
set_option maxRecDepth 20000 in
theorem ggX6_peel_X6_isPlace : GoodIn wsX6_peel wsX6_isPlace := goodIn_r _ [6] (by decide +kernel) (by decide +kernel)
set_option maxRecDepth 20000 in
theorem gX6_peel_X6_isPlace : GoodIn wsX6_peel (va_wsS RX6 136 yX6_isPlace wsX6_isPlace) := goodIn_app (goodIn_of _ (by decide +kernel)) ggX6_peel_X6_isPlace
set_option maxRecDepth 20000 in
theorem ggX6_peel_X6_isSize : GoodIn wsX6_peel wsX6_isSize := goodIn_r _ [9] (by decide +kernel) (by decide +kernel)
set_option maxRecDepth 20000 in
theorem gX6_peel_X6_isSize : GoodIn wsX6_peel (va_wsS RX6 102 yX6_isSize wsX6_isSize) := goodIn_app (goodIn_of _ (by decide +kernel)) ggX6_peel_X6_isSize
set_option maxRecDepth 20000 in
theorem ggX6_peel_X6_isSizeOfAnyRow : GoodIn wsX6_peel wsX6_isSizeOfAnyRow := goodIn_r _ [13, 14, 84, 85, 86, 87, 88, 89, 90, 91, 97, 98] (by decide +kernel) (by decide +kernel)
set_option maxRecDepth 20000 in
theorem gX6_peel_X6_isSizeOfAnyRow : GoodIn wsX6_peel (wsV RX6 178 RX6 yX6_isSizeOfAnyRow wsX6_isSizeOfAnyRow) := goodIn_app (goodIn_of _ (by decide +kernel)) ggX6_peel_X6_isSizeOfAnyRow
set_option maxRecDepth 20000 in
theorem ggX6_peel_X6_listen : GoodIn wsX6_peel wsX6_listen := goodIn_r _ [18, 2, 19, 20, 21, 22, 23, 24, 25, 26, 27, 28, 29, 30, 31, 32, 33, 5, 34, 84, 85, 86, 87, 88, 89, 90, 91, 99, 100, 101, 102, 103, 104, 105, 106, 107] (by decide +kernel) (by decide +kernel)
set_option maxRecDepth 20000 in
theorem gX6_peel_X6_listen : GoodIn wsX6_peel (wsV RX6 142 RX6 yX6_listen wsX6_listen) := goodIn_app (goodIn_of _ (by decide +kernel)) ggX6_peel_X6_listen
set_option maxRecDepth 20000 in
theorem ggX6_peel_X6_takeOffLoudest : GoodIn wsX6_peel wsX6_takeOffLoudest := goodIn_r _ [38, 14, 2, 39, 40, 41, 42, 1, 43, 44, 45, 46, 47, 48, 49, 50, 51, 52, 53, 54, 55, 5, 56, 57, 58, 59, 60, 61, 62, 63, 64, 65, 66, 67, 68, 69, 70, 71, 72, 73, 74, 75, 76, 84, 85, 86, 87, 88, 89, 90, 91, 97, 98, 99, 100, 101, 102, 103, 92, 93, 94, 95, 96] (by decide +kernel) (by decide +kernel)
set_option maxRecDepth 20000 in
theorem gX6_peel_X6_takeOffLoudest : GoodIn wsX6_peel (wsV RX6 184 RX6 yX6_takeOffLoudest wsX6_takeOffLoudest) := goodIn_app (goodIn_of _ (by decide +kernel)) ggX6_peel_X6_takeOffLoudest
set_option maxRecDepth 20000 in
theorem ggX6_peel_X5_squaresOfX : GoodIn wsX6_peel wsX5_squaresOfX := goodIn_r _ [81, 82, 83, 99, 100, 101, 102, 103] (by decide +kernel) (by decide +kernel)
set_option maxRecDepth 20000 in
theorem gX6_peel_X5_squaresOfX : GoodIn wsX6_peel (wsV RX6 187 RX5 yX5_squaresOfX wsX5_squaresOfX) := goodIn_app (goodIn_of _ (by decide +kernel)) ggX6_peel_X5_squaresOfX
theorem dX6_peel_0 : decode cX6_peel 0 = .ok (.iload_n 1, 1) := by decide +kernel
theorem dX6_peel_1 : decode cX6_peel 1 = .ok (.invokestatic 136, 3) := by decide +kernel
theorem dX6_peel_4 : decode cX6_peel 4 = .ok (.ifCond .eq 10, 3) := by decide +kernel
theorem dX6_peel_7 : decode cX6_peel 7 = .ok (.iload_n 2, 1) := by decide +kernel
theorem dX6_peel_8 : decode cX6_peel 8 = .ok (.invokestatic 102, 3) := by decide +kernel
theorem dX6_peel_11 : decode cX6_peel 11 = .ok (.ifCond .ne 6, 3) := by decide +kernel
theorem dX6_peel_14 : decode cX6_peel 14 = .ok (.bipush (-2), 2) := by decide +kernel
theorem dX6_peel_16 : decode cX6_peel 16 = .ok (.ireturn, 1) := by decide +kernel
theorem dX6_peel_17 : decode cX6_peel 17 = .ok (.aload_n 0, 1) := by decide +kernel
theorem dX6_peel_18 : decode cX6_peel 18 = .ok (.iload_n 2, 1) := by decide +kernel
theorem dX6_peel_19 : decode cX6_peel 19 = .ok (.invokevirtual 178, 3) := by decide +kernel
theorem dX6_peel_22 : decode cX6_peel 22 = .ok (.ifCond .ne 6, 3) := by decide +kernel
theorem dX6_peel_25 : decode cX6_peel 25 = .ok (.bipush (-3), 2) := by decide +kernel
theorem dX6_peel_27 : decode cX6_peel 27 = .ok (.ireturn, 1) := by decide +kernel
theorem dX6_peel_28 : decode cX6_peel 28 = .ok (.aload_n 0, 1) := by decide +kernel
theorem dX6_peel_29 : decode cX6_peel 29 = .ok (.iload_n 1, 1) := by decide +kernel
theorem dX6_peel_30 : decode cX6_peel 30 = .ok (.iload_n 2, 1) := by decide +kernel
theorem dX6_peel_31 : decode cX6_peel 31 = .ok (.invokevirtual 142, 3) := by decide +kernel
theorem dX6_peel_34 : decode cX6_peel 34 = .ok (.aload_n 0, 1) := by decide +kernel
theorem dX6_peel_35 : decode cX6_peel 35 = .ok (.getfield 38, 3) := by decide +kernel
theorem dX6_peel_38 : decode cX6_peel 38 = .ok (.iconst 0, 1) := by decide +kernel
theorem dX6_peel_39 : decode cX6_peel 39 = .ok (.putfield 181, 3) := by decide +kernel
theorem dX6_peel_42 : decode cX6_peel 42 = .ok (.iconst 0, 1) := by decide +kernel
theorem dX6_peel_43 : decode cX6_peel 43 = .ok (.istore_n 3, 1) := by decide +kernel
theorem dX6_peel_44 : decode cX6_peel 44 = .ok (.iload_n 3, 1) := by decide +kernel
theorem dX6_peel_45 : decode cX6_peel 45 = .ok (.bipush 20, 2) := by decide +kernel
theorem dX6_peel_47 : decode cX6_peel 47 = .ok (.if_icmp .ge 20, 3) := by decide +kernel
theorem dX6_peel_50 : decode cX6_peel 50 = .ok (.aload_n 0, 1) := by decide +kernel
theorem dX6_peel_51 : decode cX6_peel 51 = .ok (.iload_n 2, 1) := by decide +kernel
theorem dX6_peel_52 : decode cX6_peel 52 = .ok (.invokevirtual 184, 3) := by decide +kernel
theorem dX6_peel_55 : decode cX6_peel 55 = .ok (.ifCond .ne 6, 3) := by decide +kernel
theorem dX6_peel_58 : decode cX6_peel 58 = .ok (.goto 9, 3) := by decide +kernel
theorem dX6_peel_61 : decode cX6_peel 61 = .ok (.iinc 3 1, 3) := by decide +kernel
theorem dX6_peel_64 : decode cX6_peel 64 = .ok (.goto (-20), 3) := by decide +kernel
theorem dX6_peel_67 : decode cX6_peel 67 = .ok (.aload_n 0, 1) := by decide +kernel
theorem dX6_peel_68 : decode cX6_peel 68 = .ok (.getfield 38, 3) := by decide +kernel
theorem dX6_peel_71 : decode cX6_peel 71 = .ok (.aload_n 0, 1) := by decide +kernel
theorem dX6_peel_72 : decode cX6_peel 72 = .ok (.getfield 24, 3) := by decide +kernel
theorem dX6_peel_75 : decode cX6_peel 75 = .ok (.invokevirtual 187, 3) := by decide +kernel
theorem dX6_peel_78 : decode cX6_peel 78 = .ok (.putfield 191, 3) := by decide +kernel
theorem dX6_peel_81 : decode cX6_peel 81 = .ok (.aload_n 0, 1) := by decide +kernel
theorem dX6_peel_82 : decode cX6_peel 82 = .ok (.getfield 38, 3) := by decide +kernel
theorem dX6_peel_85 : decode cX6_peel 85 = .ok (.getfield 181, 3) := by decide +kernel
theorem dX6_peel_88 : decode cX6_peel 88 = .ok (.ireturn, 1) := by decide +kernel
theorem dX6_peeled_0 : decode cX6_peeled 0 = .ok (.iload_n 1, 1) := by decide +kernel
theorem dX6_peeled_1 : decode cX6_peeled 1 = .ok (.ifCond .lt 14, 3) := by decide +kernel
theorem dX6_peeled_4 : decode cX6_peeled 4 = .ok (.iload_n 1, 1) := by decide +kernel
theorem dX6_peeled_5 : decode cX6_peeled 5 = .ok (.aload_n 0, 1) := by decide +kernel
theorem dX6_peeled_6 : decode cX6_peeled 6 = .ok (.getfield 38, 3) := by decide +kernel
theorem dX6_peeled_9 : decode cX6_peeled 9 = .ok (.getfield 181, 3) := by decide +kernel
theorem dX6_peeled_12 : decode cX6_peeled 12 = .ok (.if_icmp .lt 6, 3) := by decide +kernel
theorem dX6_peeled_15 : decode cX6_peeled 15 = .ok (.ldc 194, 2) := by decide +kernel
theorem dX6_peeled_17 : decode cX6_peeled 17 = .ok (.ireturn, 1) := by decide +kernel
theorem dX6_peeled_18 : decode cX6_peeled 18 = .ok (.iload_n 2, 1) := by decide +kernel
theorem dX6_peeled_19 : decode cX6_peeled 19 = .ok (.tableswitch 55 0 2 #[25, 35, 45], 25) := by decide +kernel
theorem dX6_peeled_44 : decode cX6_peeled 44 = .ok (.aload_n 0, 1) := by decide +kernel
theorem dX6_peeled_45 : decode cX6_peeled 45 = .ok (.getfield 38, 3) := by decide +kernel
theorem dX6_peeled_48 : decode cX6_peeled 48 = .ok (.getfield 195, 3) := by decide +kernel
theorem dX6_peeled_51 : decode cX6_peeled 51 = .ok (.iload_n 1, 1) := by decide +kernel
theorem dX6_peeled_52 : decode cX6_peeled 52 = .ok (.iaload, 1) := by decide +kernel
theorem dX6_peeled_53 : decode cX6_peeled 53 = .ok (.ireturn, 1) := by decide +kernel
theorem dX6_peeled_54 : decode cX6_peeled 54 = .ok (.aload_n 0, 1) := by decide +kernel
theorem dX6_peeled_55 : decode cX6_peeled 55 = .ok (.getfield 38, 3) := by decide +kernel
theorem dX6_peeled_58 : decode cX6_peeled 58 = .ok (.getfield 198, 3) := by decide +kernel
theorem dX6_peeled_61 : decode cX6_peeled 61 = .ok (.iload_n 1, 1) := by decide +kernel
theorem dX6_peeled_62 : decode cX6_peeled 62 = .ok (.iaload, 1) := by decide +kernel
theorem dX6_peeled_63 : decode cX6_peeled 63 = .ok (.ireturn, 1) := by decide +kernel
theorem dX6_peeled_64 : decode cX6_peeled 64 = .ok (.aload_n 0, 1) := by decide +kernel
theorem dX6_peeled_65 : decode cX6_peeled 65 = .ok (.getfield 38, 3) := by decide +kernel
theorem dX6_peeled_68 : decode cX6_peeled 68 = .ok (.getfield 201, 3) := by decide +kernel
theorem dX6_peeled_71 : decode cX6_peeled 71 = .ok (.iload_n 1, 1) := by decide +kernel
theorem dX6_peeled_72 : decode cX6_peeled 72 = .ok (.iaload, 1) := by decide +kernel
theorem dX6_peeled_73 : decode cX6_peeled 73 = .ok (.ireturn, 1) := by decide +kernel
theorem dX6_peeled_74 : decode cX6_peeled 74 = .ok (.ldc 194, 2) := by decide +kernel
theorem dX6_peeled_76 : decode cX6_peeled 76 = .ok (.ireturn, 1) := by decide +kernel
theorem dX6_noise_0 : decode cX6_noise 0 = .ok (.aload_n 0, 1) := by decide +kernel
theorem dX6_noise_1 : decode cX6_noise 1 = .ok (.getfield 38, 3) := by decide +kernel
theorem dX6_noise_4 : decode cX6_noise 4 = .ok (.getfield 191, 3) := by decide +kernel
theorem dX6_noise_7 : decode cX6_noise 7 = .ok (.lreturn, 1) := by decide +kernel
set_option maxRecDepth 20000 in
theorem ggX6_follow_X6_isRow : GoodIn wsX6_follow wsX6_isRow := goodIn_r _ [5] (by decide +kernel) (by decide +kernel)
set_option maxRecDepth 20000 in
theorem gX6_follow_X6_isRow : GoodIn wsX6_follow (va_wsS RX6 58 yX6_isRow wsX6_isRow) := goodIn_app (goodIn_of _ (by decide +kernel)) ggX6_follow_X6_isRow
set_option maxRecDepth 20000 in
theorem ggX6_follow_X6_isPlace : GoodIn wsX6_follow wsX6_isPlace := goodIn_r _ [8] (by decide +kernel) (by decide +kernel)
set_option maxRecDepth 20000 in
theorem gX6_follow_X6_isPlace : GoodIn wsX6_follow (va_wsS RX6 136 yX6_isPlace wsX6_isPlace) := goodIn_app (goodIn_of _ (by decide +kernel)) ggX6_follow_X6_isPlace
set_option maxRecDepth 20000 in
theorem ggX6_follow_X6_isShift : GoodIn wsX6_follow wsX6_isShift := goodIn_r _ [11] (by decide +kernel) (by decide +kernel)
set_option maxRecDepth 20000 in
theorem gX6_follow_X6_isShift : GoodIn wsX6_follow (va_wsS RX6 80 yX6_isShift wsX6_isShift) := goodIn_app (goodIn_of _ (by decide +kernel)) ggX6_follow_X6_isShift
set_option maxRecDepth 20000 in
theorem ggX6_follow_X6_listen : GoodIn wsX6_follow wsX6_listen := goodIn_r _ [15, 16, 17, 18, 19, 20, 21, 22, 23, 24, 25, 26, 27, 28, 29, 30, 31, 4, 32, 52, 53, 54, 55, 56, 57, 58, 59, 62, 63, 64, 65, 66, 67, 68, 69, 70] (by decide +kernel) (by decide +kernel)
set_option maxRecDepth 20000 in
theorem gX6_follow_X6_listen : GoodIn wsX6_follow (wsV RX6 142 RX6 yX6_listen wsX6_listen) := goodIn_app (goodIn_of _ (by decide +kernel)) ggX6_follow_X6_listen
set_option maxRecDepth 20000 in
theorem ggX6_follow_X6_loudestNear : GoodIn wsX6_follow wsX6_loudestNear := goodIn_r _ [36, 16, 37, 38, 39, 40, 41, 42, 43, 44, 45, 46, 47, 48, 49, 50, 51, 60, 61, 52, 53, 54, 55, 56, 57, 58, 59, 62, 63, 64, 65, 66] (by decide +kernel) (by decide +kernel)
set_option maxRecDepth 20000 in
theorem gX6_follow_X6_loudestNear : GoodIn wsX6_follow (wsV RX6 204 RX6 yX6_loudestNear wsX6_loudestNear) := goodIn_app (goodIn_of _ (by decide +kernel)) ggX6_follow_X6_loudestNear
theorem dX6_follow_0 : decode cX6_follow 0 = .ok (.iload_n 1, 1) := by decide +kernel
theorem dX6_follow_1 : decode cX6_follow 1 = .ok (.invokestatic 58, 3) := by decide +kernel
theorem dX6_follow_4 : decode cX6_follow 4 = .ok (.ifCond .eq 30, 3) := by decide +kernel
theorem dX6_follow_7 : decode cX6_follow 7 = .ok (.iload_n 2, 1) := by decide +kernel
theorem dX6_follow_8 : decode cX6_follow 8 = .ok (.invokestatic 136, 3) := by decide +kernel
theorem dX6_follow_11 : decode cX6_follow 11 = .ok (.ifCond .eq 23, 3) := by decide +kernel
theorem dX6_follow_14 : decode cX6_follow 14 = .ok (.iload_n 3, 1) := by decide +kernel
theorem dX6_follow_15 : decode cX6_follow 15 = .ok (.invokestatic 80, 3) := by decide +kernel
theorem dX6_follow_18 : decode cX6_follow 18 = .ok (.ifCond .eq 16, 3) := by decide +kernel
theorem dX6_follow_21 : decode cX6_follow 21 = .ok (.iload 4, 2) := by decide +kernel
theorem dX6_follow_23 : decode cX6_follow 23 = .ok (.iconst 1, 1) := by decide +kernel
theorem dX6_follow_24 : decode cX6_follow 24 = .ok (.if_icmp .lt 10, 3) := by decide +kernel
theorem dX6_follow_27 : decode cX6_follow 27 = .ok (.iload 4, 2) := by decide +kernel
theorem dX6_follow_29 : decode cX6_follow 29 = .ok (.bipush 20, 2) := by decide +kernel
theorem dX6_follow_31 : decode cX6_follow 31 = .ok (.if_icmp .le 6, 3) := by decide +kernel
theorem dX6_follow_34 : decode cX6_follow 34 = .ok (.bipush (-2), 2) := by decide +kernel
theorem dX6_follow_36 : decode cX6_follow 36 = .ok (.ireturn, 1) := by decide +kernel
theorem dX6_follow_37 : decode cX6_follow 37 = .ok (.aload_n 0, 1) := by decide +kernel
theorem dX6_follow_38 : decode cX6_follow 38 = .ok (.getfield 11, 3) := by decide +kernel
theorem dX6_follow_41 : decode cX6_follow 41 = .ok (.iload_n 1, 1) := by decide +kernel
theorem dX6_follow_42 : decode cX6_follow 42 = .ok (.aaload, 1) := by decide +kernel
theorem dX6_follow_43 : decode cX6_follow 43 = .ok (.getfield 70, 3) := by decide +kernel
theorem dX6_follow_46 : decode cX6_follow 46 = .ok (.istore 5, 2) := by decide +kernel
theorem dX6_follow_48 : decode cX6_follow 48 = .ok (.iload 5, 2) := by decide +kernel
theorem dX6_follow_50 : decode cX6_follow 50 = .ok (.iconst 1, 1) := by decide +kernel
theorem dX6_follow_51 : decode cX6_follow 51 = .ok (.if_icmp .ge 6, 3) := by decide +kernel
theorem dX6_follow_54 : decode cX6_follow 54 = .ok (.bipush (-3), 2) := by decide +kernel
theorem dX6_follow_56 : decode cX6_follow 56 = .ok (.ireturn, 1) := by decide +kernel
theorem dX6_follow_57 : decode cX6_follow 57 = .ok (.iload_n 3, 1) := by decide +kernel
theorem dX6_follow_58 : decode cX6_follow 58 = .ok (.iload 5, 2) := by decide +kernel
theorem dX6_follow_60 : decode cX6_follow 60 = .ok (.irem, 1) := by decide +kernel
theorem dX6_follow_61 : decode cX6_follow 61 = .ok (.istore 6, 2) := by decide +kernel
theorem dX6_follow_63 : decode cX6_follow 63 = .ok (.iconst 0, 1) := by decide +kernel
theorem dX6_follow_64 : decode cX6_follow 64 = .ok (.istore 7, 2) := by decide +kernel
theorem dX6_follow_66 : decode cX6_follow 66 = .ok (.iload 7, 2) := by decide +kernel
theorem dX6_follow_68 : decode cX6_follow 68 = .ok (.iload 4, 2) := by decide +kernel
theorem dX6_follow_70 : decode cX6_follow 70 = .ok (.if_icmp .ge 39, 3) := by decide +kernel
theorem dX6_follow_73 : decode cX6_follow 73 = .ok (.aload_n 0, 1) := by decide +kernel
theorem dX6_follow_74 : decode cX6_follow 74 = .ok (.iload_n 2, 1) := by decide +kernel
theorem dX6_follow_75 : decode cX6_follow 75 = .ok (.iload 7, 2) := by decide +kernel
theorem dX6_follow_77 : decode cX6_follow 77 = .ok (.iload 5, 2) := by decide +kernel
theorem dX6_follow_79 : decode cX6_follow 79 = .ok (.imul, 1) := by decide +kernel
theorem dX6_follow_80 : decode cX6_follow 80 = .ok (.iadd, 1) := by decide +kernel
theorem dX6_follow_81 : decode cX6_follow 81 = .ok (.iload 5, 2) := by decide +kernel
theorem dX6_follow_83 : decode cX6_follow 83 = .ok (.invokevirtual 142, 3) := by decide +kernel
theorem dX6_follow_86 : decode cX6_follow 86 = .ok (.aload_n 0, 1) := by decide +kernel
theorem dX6_follow_87 : decode cX6_follow 87 = .ok (.aload_n 0, 1) := by decide +kernel
theorem dX6_follow_88 : decode cX6_follow 88 = .ok (.getfield 11, 3) := by decide +kernel
theorem dX6_follow_91 : decode cX6_follow 91 = .ok (.iload_n 1, 1) := by decide +kernel
theorem dX6_follow_92 : decode cX6_follow 92 = .ok (.aaload, 1) := by decide +kernel
theorem dX6_follow_93 : decode cX6_follow 93 = .ok (.iload 6, 2) := by decide +kernel
theorem dX6_follow_95 : decode cX6_follow 95 = .ok (.invokevirtual 204, 3) := by decide +kernel
theorem dX6_follow_98 : decode cX6_follow 98 = .ok (.iload 5, 2) := by decide +kernel
theorem dX6_follow_100 : decode cX6_follow 100 = .ok (.irem, 1) := by decide +kernel
theorem dX6_follow_101 : decode cX6_follow 101 = .ok (.istore 6, 2) := by decide +kernel
theorem dX6_follow_103 : decode cX6_follow 103 = .ok (.iinc 7 1, 3) := by decide +kernel
theorem dX6_follow_106 : decode cX6_follow 106 = .ok (.goto (-40), 3) := by decide +kernel
theorem dX6_follow_109 : decode cX6_follow 109 = .ok (.iload 6, 2) := by decide +kernel
theorem dX6_follow_111 : decode cX6_follow 111 = .ok (.ireturn, 1) := by decide +kernel
set_option maxRecDepth 20000 in
theorem ggX6_length_X0_haveDivisorWith : GoodIn wsX6_length wsX0_haveDivisorWith := goodIn_r _ [6, 7, 8, 22, 23, 24] (by decide +kernel) (by decide +kernel)
set_option maxRecDepth 20000 in
theorem gX6_length_X0_haveDivisorWith : GoodIn wsX6_length (wsV RX6 208 RX0 yX0_haveDivisorWith wsX0_haveDivisorWith) := goodIn_app (goodIn_of _ (by decide +kernel)) ggX6_length_X0_haveDivisorWith
set_option maxRecDepth 20000 in
theorem ggX6_length_X0_keep : GoodIn wsX6_length wsX0_keep := goodIn_r _ [12, 7, 8, 13, 22, 23, 24] (by decide +kernel) (by decide +kernel)
set_option maxRecDepth 20000 in
theorem gX6_length_X0_keep : GoodIn wsX6_length (wsV RX6 212 RX0 yX0_keep wsX0_keep) := goodIn_app (goodIn_of _ (by decide +kernel)) ggX6_length_X0_keep
theorem dX6_length_0 : decode cX6_length 0 = .ok (.iload_n 1, 1) := by decide +kernel
theorem dX6_length_1 : decode cX6_length 1 = .ok (.iconst 2, 1) := by decide +kernel
theorem dX6_length_2 : decode cX6_length 2 = .ok (.if_icmp .lt 29, 3) := by decide +kernel
theorem dX6_length_5 : decode cX6_length 5 = .ok (.iload_n 1, 1) := by decide +kernel
theorem dX6_length_6 : decode cX6_length 6 = .ok (.bipush 127, 2) := by decide +kernel
theorem dX6_length_8 : decode cX6_length 8 = .ok (.if_icmp .gt 23, 3) := by decide +kernel
theorem dX6_length_11 : decode cX6_length 11 = .ok (.iload_n 2, 1) := by decide +kernel
theorem dX6_length_12 : decode cX6_length 12 = .ok (.ifCond .lt 19, 3) := by decide +kernel
theorem dX6_length_15 : decode cX6_length 15 = .ok (.iload_n 2, 1) := by decide +kernel
theorem dX6_length_16 : decode cX6_length 16 = .ok (.iload_n 1, 1) := by decide +kernel
theorem dX6_length_17 : decode cX6_length 17 = .ok (.if_icmp .ge 14, 3) := by decide +kernel
theorem dX6_length_20 : decode cX6_length 20 = .ok (.aload_n 0, 1) := by decide +kernel
theorem dX6_length_21 : decode cX6_length 21 = .ok (.getfield 45, 3) := by decide +kernel
theorem dX6_length_24 : decode cX6_length 24 = .ok (.iload_n 1, 1) := by decide +kernel
theorem dX6_length_25 : decode cX6_length 25 = .ok (.invokevirtual 208, 3) := by decide +kernel
theorem dX6_length_28 : decode cX6_length 28 = .ok (.ifCond .eq 6, 3) := by decide +kernel
theorem dX6_length_31 : decode cX6_length 31 = .ok (.bipush (-2), 2) := by decide +kernel
theorem dX6_length_33 : decode cX6_length 33 = .ok (.ireturn, 1) := by decide +kernel
theorem dX6_length_34 : decode cX6_length 34 = .ok (.aload_n 0, 1) := by decide +kernel
theorem dX6_length_35 : decode cX6_length 35 = .ok (.getfield 45, 3) := by decide +kernel
theorem dX6_length_38 : decode cX6_length 38 = .ok (.getfield 211, 3) := by decide +kernel
theorem dX6_length_41 : decode cX6_length 41 = .ok (.iconst 5, 1) := by decide +kernel
theorem dX6_length_42 : decode cX6_length 42 = .ok (.if_icmp .lt 6, 3) := by decide +kernel
theorem dX6_length_45 : decode cX6_length 45 = .ok (.bipush (-4), 2) := by decide +kernel
theorem dX6_length_47 : decode cX6_length 47 = .ok (.ireturn, 1) := by decide +kernel
theorem dX6_length_48 : decode cX6_length 48 = .ok (.aload_n 0, 1) := by decide +kernel
theorem dX6_length_49 : decode cX6_length 49 = .ok (.getfield 45, 3) := by decide +kernel
theorem dX6_length_52 : decode cX6_length 52 = .ok (.iload_n 1, 1) := by decide +kernel
theorem dX6_length_53 : decode cX6_length 53 = .ok (.iload_n 2, 1) := by decide +kernel
theorem dX6_length_54 : decode cX6_length 54 = .ok (.invokevirtual 212, 3) := by decide +kernel
theorem dX6_length_57 : decode cX6_length 57 = .ok (.aload_n 0, 1) := by decide +kernel
theorem dX6_length_58 : decode cX6_length 58 = .ok (.getfield 45, 3) := by decide +kernel
theorem dX6_length_61 : decode cX6_length 61 = .ok (.getfield 211, 3) := by decide +kernel
theorem dX6_length_64 : decode cX6_length 64 = .ok (.ireturn, 1) := by decide +kernel
theorem dX6_reset_0 : decode cX6_reset 0 = .ok (.aload_n 0, 1) := by decide +kernel
theorem dX6_reset_1 : decode cX6_reset 1 = .ok (.getfield 45, 3) := by decide +kernel
theorem dX6_reset_4 : decode cX6_reset 4 = .ok (.getfield 211, 3) := by decide +kernel
theorem dX6_reset_7 : decode cX6_reset 7 = .ok (.istore_n 1, 1) := by decide +kernel
theorem dX6_reset_8 : decode cX6_reset 8 = .ok (.aload_n 0, 1) := by decide +kernel
theorem dX6_reset_9 : decode cX6_reset 9 = .ok (.getfield 45, 3) := by decide +kernel
theorem dX6_reset_12 : decode cX6_reset 12 = .ok (.iconst 0, 1) := by decide +kernel
theorem dX6_reset_13 : decode cX6_reset 13 = .ok (.putfield 211, 3) := by decide +kernel
theorem dX6_reset_16 : decode cX6_reset 16 = .ok (.iload_n 1, 1) := by decide +kernel
theorem dX6_reset_17 : decode cX6_reset 17 = .ok (.ireturn, 1) := by decide +kernel
set_option maxRecDepth 20000 in
theorem ggX6_range_X0_leastFitting : GoodIn wsX6_range wsX0_leastFitting := goodIn_r _ [6, 7, 8, 9, 10, 11, 5, 12, 13, 22, 23, 24] (by decide +kernel) (by decide +kernel)
set_option maxRecDepth 20000 in
theorem gX6_range_X0_leastFitting : GoodIn wsX6_range (wsV RX6 215 RX0 yX0_leastFitting wsX0_leastFitting) := goodIn_app (goodIn_of _ (by decide +kernel)) ggX6_range_X0_leastFitting
theorem dX6_range_0 : decode cX6_range 0 = .ok (.aload_n 0, 1) := by decide +kernel
theorem dX6_range_1 : decode cX6_range 1 = .ok (.getfield 45, 3) := by decide +kernel
theorem dX6_range_4 : decode cX6_range 4 = .ok (.invokevirtual 215, 3) := by decide +kernel
theorem dX6_range_7 : decode cX6_range 7 = .ok (.lreturn, 1) := by decide +kernel
set_option maxRecDepth 20000 in
theorem ggX6_mend_X0_howManyFit : GoodIn wsX6_mend wsX0_howManyFit := goodIn_r _ [6, 7, 8, 9, 10, 5, 11, 12, 13, 22, 23, 24] (by decide +kernel) (by decide +kernel)
set_option maxRecDepth 20000 in
theorem gX6_mend_X0_howManyFit : GoodIn wsX6_mend (wsV RX6 218 RX0 yX0_howManyFit wsX0_howManyFit) := goodIn_app (goodIn_of _ (by decide +kernel)) ggX6_mend_X0_howManyFit
theorem dX6_mend_0 : decode cX6_mend 0 = .ok (.iload_n 1, 1) := by decide +kernel
theorem dX6_mend_1 : decode cX6_mend 1 = .ok (.iconst 1, 1) := by decide +kernel
theorem dX6_mend_2 : decode cX6_mend 2 = .ok (.if_icmp .lt 10, 3) := by decide +kernel
theorem dX6_mend_5 : decode cX6_mend 5 = .ok (.iload_n 1, 1) := by decide +kernel
theorem dX6_mend_6 : decode cX6_mend 6 = .ok (.sipush 20000, 3) := by decide +kernel
theorem dX6_mend_9 : decode cX6_mend 9 = .ok (.if_icmp .le 6, 3) := by decide +kernel
theorem dX6_mend_12 : decode cX6_mend 12 = .ok (.bipush (-2), 2) := by decide +kernel
theorem dX6_mend_14 : decode cX6_mend 14 = .ok (.ireturn, 1) := by decide +kernel
theorem dX6_mend_15 : decode cX6_mend 15 = .ok (.iconst 0, 1) := by decide +kernel
theorem dX6_mend_16 : decode cX6_mend 16 = .ok (.istore_n 2, 1) := by decide +kernel
theorem dX6_mend_17 : decode cX6_mend 17 = .ok (.aload_n 0, 1) := by decide +kernel
theorem dX6_mend_18 : decode cX6_mend 18 = .ok (.getfield 45, 3) := by decide +kernel
theorem dX6_mend_21 : decode cX6_mend 21 = .ok (.iconst 0, 1) := by decide +kernel
theorem dX6_mend_22 : decode cX6_mend 22 = .ok (.invokevirtual 218, 3) := by decide +kernel
theorem dX6_mend_25 : decode cX6_mend 25 = .ok (.istore_n 3, 1) := by decide +kernel
theorem dX6_mend_26 : decode cX6_mend 26 = .ok (.iconst 1, 1) := by decide +kernel
theorem dX6_mend_27 : decode cX6_mend 27 = .ok (.istore 4, 2) := by decide +kernel
theorem dX6_mend_29 : decode cX6_mend 29 = .ok (.iload 4, 2) := by decide +kernel
theorem dX6_mend_31 : decode cX6_mend 31 = .ok (.iload_n 1, 1) := by decide +kernel
theorem dX6_mend_32 : decode cX6_mend 32 = .ok (.if_icmp .ge 32, 3) := by decide +kernel
theorem dX6_mend_35 : decode cX6_mend 35 = .ok (.aload_n 0, 1) := by decide +kernel
theorem dX6_mend_36 : decode cX6_mend 36 = .ok (.getfield 45, 3) := by decide +kernel
theorem dX6_mend_39 : decode cX6_mend 39 = .ok (.iload 4, 2) := by decide +kernel
theorem dX6_mend_41 : decode cX6_mend 41 = .ok (.invokevirtual 218, 3) := by decide +kernel
theorem dX6_mend_44 : decode cX6_mend 44 = .ok (.istore 5, 2) := by decide +kernel
theorem dX6_mend_46 : decode cX6_mend 46 = .ok (.iload 5, 2) := by decide +kernel
theorem dX6_mend_48 : decode cX6_mend 48 = .ok (.iload_n 3, 1) := by decide +kernel
theorem dX6_mend_49 : decode cX6_mend 49 = .ok (.if_icmp .le 9, 3) := by decide +kernel
theorem dX6_mend_52 : decode cX6_mend 52 = .ok (.iload 5, 2) := by decide +kernel
theorem dX6_mend_54 : decode cX6_mend 54 = .ok (.istore_n 3, 1) := by decide +kernel
theorem dX6_mend_55 : decode cX6_mend 55 = .ok (.iload 4, 2) := by decide +kernel
theorem dX6_mend_57 : decode cX6_mend 57 = .ok (.istore_n 2, 1) := by decide +kernel
theorem dX6_mend_58 : decode cX6_mend 58 = .ok (.iinc 4 1, 3) := by decide +kernel
theorem dX6_mend_61 : decode cX6_mend 61 = .ok (.goto (-32), 3) := by decide +kernel
theorem dX6_mend_64 : decode cX6_mend 64 = .ok (.bipush 10, 2) := by decide +kernel
theorem dX6_mend_66 : decode cX6_mend 66 = .ok (.iload_n 2, 1) := by decide +kernel
theorem dX6_mend_67 : decode cX6_mend 67 = .ok (.imul, 1) := by decide +kernel
theorem dX6_mend_68 : decode cX6_mend 68 = .ok (.iload_n 3, 1) := by decide +kernel
theorem dX6_mend_69 : decode cX6_mend 69 = .ok (.iadd, 1) := by decide +kernel
theorem dX6_mend_70 : decode cX6_mend 70 = .ok (.ireturn, 1) := by decide +kernel
set_option maxRecDepth 20000 in
theorem ggX6_hits_X6_areHops : GoodIn wsX6_hits wsX6_areHops := goodIn_r _ [4, 5] (by decide +kernel) (by decide +kernel)
set_option maxRecDepth 20000 in
theorem gX6_hits_X6_areHops : GoodIn wsX6_hits (va_wsS RX6 221 yX6_areHops wsX6_areHops) := goodIn_app (goodIn_of _ (by decide +kernel)) ggX6_hits_X6_areHops
set_option maxRecDepth 20000 in
theorem ggX6_hits_X6_meetings : GoodIn wsX6_hits wsX6_meetings := goodIn_r _ [8] (by decide +kernel) (by decide +kernel)
set_option maxRecDepth 20000 in
theorem gX6_hits_X6_meetings : GoodIn wsX6_hits (va_wsS RX6 224 yX6_meetings wsX6_meetings) := goodIn_app (goodIn_of _ (by decide +kernel)) ggX6_hits_X6_meetings
theorem dX6_hits_0 : decode cX6_hits 0 = .ok (.iload_n 1, 1) := by decide +kernel
theorem dX6_hits_1 : decode cX6_hits 1 = .ok (.iload_n 2, 1) := by decide +kernel
theorem dX6_hits_2 : decode cX6_hits 2 = .ok (.iload_n 3, 1) := by decide +kernel
theorem dX6_hits_3 : decode cX6_hits 3 = .ok (.invokestatic 221, 3) := by decide +kernel
theorem dX6_hits_6 : decode cX6_hits 6 = .ok (.ifCond .eq 25, 3) := by decide +kernel
theorem dX6_hits_9 : decode cX6_hits 9 = .ok (.iload 4, 2) := by decide +kernel
theorem dX6_hits_11 : decode cX6_hits 11 = .ok (.ifCond .lt 20, 3) := by decide +kernel
theorem dX6_hits_14 : decode cX6_hits 14 = .ok (.iload 4, 2) := by decide +kernel
theorem dX6_hits_16 : decode cX6_hits 16 = .ok (.iload_n 1, 1) := by decide +kernel
theorem dX6_hits_17 : decode cX6_hits 17 = .ok (.if_icmp .ge 14, 3) := by decide +kernel
theorem dX6_hits_20 : decode cX6_hits 20 = .ok (.iload 5, 2) := by decide +kernel
theorem dX6_hits_22 : decode cX6_hits 22 = .ok (.ifCond .lt 9, 3) := by decide +kernel
theorem dX6_hits_25 : decode cX6_hits 25 = .ok (.iload 5, 2) := by decide +kernel
theorem dX6_hits_27 : decode cX6_hits 27 = .ok (.iload_n 1, 1) := by decide +kernel
theorem dX6_hits_28 : decode cX6_hits 28 = .ok (.if_icmp .lt 6, 3) := by decide +kernel
theorem dX6_hits_31 : decode cX6_hits 31 = .ok (.bipush (-2), 2) := by decide +kernel
theorem dX6_hits_33 : decode cX6_hits 33 = .ok (.ireturn, 1) := by decide +kernel
theorem dX6_hits_34 : decode cX6_hits 34 = .ok (.iload_n 1, 1) := by decide +kernel
theorem dX6_hits_35 : decode cX6_hits 35 = .ok (.iload_n 2, 1) := by decide +kernel
theorem dX6_hits_36 : decode cX6_hits 36 = .ok (.iload_n 3, 1) := by decide +kernel
theorem dX6_hits_37 : decode cX6_hits 37 = .ok (.iload 4, 2) := by decide +kernel
theorem dX6_hits_39 : decode cX6_hits 39 = .ok (.iload 5, 2) := by decide +kernel
theorem dX6_hits_41 : decode cX6_hits 41 = .ok (.invokestatic 224, 3) := by decide +kernel
theorem dX6_hits_44 : decode cX6_hits 44 = .ok (.ireturn, 1) := by decide +kernel
set_option maxRecDepth 20000 in
theorem ggX6_worst_X6_areHops : GoodIn wsX6_worst wsX6_areHops := goodIn_r _ [8, 9] (by decide +kernel) (by decide +kernel)
set_option maxRecDepth 20000 in
theorem gX6_worst_X6_areHops : GoodIn wsX6_worst (va_wsS RX6 221 yX6_areHops wsX6_areHops) := goodIn_app (goodIn_of _ (by decide +kernel)) ggX6_worst_X6_areHops
set_option maxRecDepth 20000 in
theorem ggX6_worst_X6_meetings : GoodIn wsX6_worst wsX6_meetings := goodIn_r _ [12] (by decide +kernel) (by decide +kernel)
set_option maxRecDepth 20000 in
theorem gX6_worst_X6_meetings : GoodIn wsX6_worst (va_wsS RX6 224 yX6_meetings wsX6_meetings) := goodIn_app (goodIn_of _ (by decide +kernel)) ggX6_worst_X6_meetings
theorem dX6_worst_0 : decode cX6_worst 0 = .ok (.iload_n 1, 1) := by decide +kernel
theorem dX6_worst_1 : decode cX6_worst 1 = .ok (.iload_n 2, 1) := by decide +kernel
theorem dX6_worst_2 : decode cX6_worst 2 = .ok (.iload_n 3, 1) := by decide +kernel
theorem dX6_worst_3 : decode cX6_worst 3 = .ok (.invokestatic 221, 3) := by decide +kernel
theorem dX6_worst_6 : decode cX6_worst 6 = .ok (.ifCond .ne 6, 3) := by decide +kernel
theorem dX6_worst_9 : decode cX6_worst 9 = .ok (.bipush (-2), 2) := by decide +kernel
theorem dX6_worst_11 : decode cX6_worst 11 = .ok (.ireturn, 1) := by decide +kernel
theorem dX6_worst_12 : decode cX6_worst 12 = .ok (.iconst 0, 1) := by decide +kernel
theorem dX6_worst_13 : decode cX6_worst 13 = .ok (.istore 4, 2) := by decide +kernel
theorem dX6_worst_15 : decode cX6_worst 15 = .ok (.iconst 0, 1) := by decide +kernel
theorem dX6_worst_16 : decode cX6_worst 16 = .ok (.istore 5, 2) := by decide +kernel
theorem dX6_worst_18 : decode cX6_worst 18 = .ok (.iload 5, 2) := by decide +kernel
theorem dX6_worst_20 : decode cX6_worst 20 = .ok (.iload_n 1, 1) := by decide +kernel
theorem dX6_worst_21 : decode cX6_worst 21 = .ok (.if_icmp .ge 55, 3) := by decide +kernel
theorem dX6_worst_24 : decode cX6_worst 24 = .ok (.iload_n 2, 1) := by decide +kernel
theorem dX6_worst_25 : decode cX6_worst 25 = .ok (.iload_n 3, 1) := by decide +kernel
theorem dX6_worst_26 : decode cX6_worst 26 = .ok (.if_icmp .ne 12, 3) := by decide +kernel
theorem dX6_worst_29 : decode cX6_worst 29 = .ok (.iload 5, 2) := by decide +kernel
theorem dX6_worst_31 : decode cX6_worst 31 = .ok (.ifCond .ne 7, 3) := by decide +kernel
theorem dX6_worst_34 : decode cX6_worst 34 = .ok (.iconst 1, 1) := by decide +kernel
theorem dX6_worst_35 : decode cX6_worst 35 = .ok (.goto 4, 3) := by decide +kernel
theorem dX6_worst_38 : decode cX6_worst 38 = .ok (.iconst 0, 1) := by decide +kernel
theorem dX6_worst_39 : decode cX6_worst 39 = .ok (.istore 6, 2) := by decide +kernel
theorem dX6_worst_41 : decode cX6_worst 41 = .ok (.iload 6, 2) := by decide +kernel
theorem dX6_worst_43 : decode cX6_worst 43 = .ok (.iload_n 1, 1) := by decide +kernel
theorem dX6_worst_44 : decode cX6_worst 44 = .ok (.if_icmp .ge 26, 3) := by decide +kernel
theorem dX6_worst_47 : decode cX6_worst 47 = .ok (.iload 4, 2) := by decide +kernel
theorem dX6_worst_49 : decode cX6_worst 49 = .ok (.iload_n 1, 1) := by decide +kernel
theorem dX6_worst_50 : decode cX6_worst 50 = .ok (.iload_n 2, 1) := by decide +kernel
theorem dX6_worst_51 : decode cX6_worst 51 = .ok (.iload_n 3, 1) := by decide +kernel
theorem dX6_worst_52 : decode cX6_worst 52 = .ok (.iload 5, 2) := by decide +kernel
theorem dX6_worst_54 : decode cX6_worst 54 = .ok (.iload 6, 2) := by decide +kernel
theorem dX6_worst_56 : decode cX6_worst 56 = .ok (.invokestatic 224, 3) := by decide +kernel
theorem dX6_worst_59 : decode cX6_worst 59 = .ok (.invokestatic 132, 3) := by decide +kernel
theorem dX6_worst_62 : decode cX6_worst 62 = .ok (.istore 4, 2) := by decide +kernel
theorem dX6_worst_64 : decode cX6_worst 64 = .ok (.iinc 6 1, 3) := by decide +kernel
theorem dX6_worst_67 : decode cX6_worst 67 = .ok (.goto (-26), 3) := by decide +kernel
theorem dX6_worst_70 : decode cX6_worst 70 = .ok (.iinc 5 1, 3) := by decide +kernel
theorem dX6_worst_73 : decode cX6_worst 73 = .ok (.goto (-55), 3) := by decide +kernel
theorem dX6_worst_76 : decode cX6_worst 76 = .ok (.iload 4, 2) := by decide +kernel
theorem dX6_worst_78 : decode cX6_worst 78 = .ok (.ireturn, 1) := by decide +kernel
set_option maxRecDepth 20000 in
theorem ggX6_reel_X6_isReel : GoodIn wsX6_reel wsX6_isReel := goodIn_r _ [5] (by decide +kernel) (by decide +kernel)
set_option maxRecDepth 20000 in
theorem gX6_reel_X6_isReel : GoodIn wsX6_reel (va_wsS RX6 99 yX6_isReel wsX6_isReel) := goodIn_app (goodIn_of _ (by decide +kernel)) ggX6_reel_X6_isReel
set_option maxRecDepth 20000 in
theorem ggX6_reel_X6_isForm : GoodIn wsX6_reel wsX6_isForm := goodIn_r _ [8] (by decide +kernel) (by decide +kernel)
set_option maxRecDepth 20000 in
theorem gX6_reel_X6_isForm : GoodIn wsX6_reel (va_wsS RX6 228 yX6_isForm wsX6_isForm) := goodIn_app (goodIn_of _ (by decide +kernel)) ggX6_reel_X6_isForm
set_option maxRecDepth 20000 in
theorem ggX6_reel_X6_found : GoodIn wsX6_reel wsX6_found := goodIn_r _ [12, 13, 30, 31, 32, 33, 34, 35, 36, 37] (by decide +kernel) (by decide +kernel)
set_option maxRecDepth 20000 in
theorem gX6_reel_X6_found : GoodIn wsX6_reel (wsV RX6 109 RX6 yX6_found wsX6_found) := goodIn_app (goodIn_of _ (by decide +kernel)) ggX6_reel_X6_found
set_option maxRecDepth 20000 in
theorem ggX6_reel_X2_renew : GoodIn wsX6_reel wsX2_renew := goodIn_r _ [18, 19, 20, 21, 22, 23, 24, 25, 26, 27, 28, 29, 38, 39, 40, 41] (by decide +kernel) (by decide +kernel)
set_option maxRecDepth 20000 in
theorem gX6_reel_X2_renew : GoodIn wsX6_reel (wsV RX6 231 RX2 yX2_renew wsX2_renew) := goodIn_app (goodIn_of _ (by decide +kernel)) ggX6_reel_X2_renew
theorem dX6_reel_0 : decode cX6_reel 0 = .ok (.iload_n 1, 1) := by decide +kernel
theorem dX6_reel_1 : decode cX6_reel 1 = .ok (.invokestatic 99, 3) := by decide +kernel
theorem dX6_reel_4 : decode cX6_reel 4 = .ok (.ifCond .eq 17, 3) := by decide +kernel
theorem dX6_reel_7 : decode cX6_reel 7 = .ok (.iload_n 2, 1) := by decide +kernel
theorem dX6_reel_8 : decode cX6_reel 8 = .ok (.invokestatic 228, 3) := by decide +kernel
theorem dX6_reel_11 : decode cX6_reel 11 = .ok (.ifCond .eq 10, 3) := by decide +kernel
theorem dX6_reel_14 : decode cX6_reel 14 = .ok (.iload_n 3, 1) := by decide +kernel
theorem dX6_reel_15 : decode cX6_reel 15 = .ok (.sipush 300, 3) := by decide +kernel
theorem dX6_reel_18 : decode cX6_reel 18 = .ok (.if_icmp .le 6, 3) := by decide +kernel
theorem dX6_reel_21 : decode cX6_reel 21 = .ok (.bipush (-2), 2) := by decide +kernel
theorem dX6_reel_23 : decode cX6_reel 23 = .ok (.ireturn, 1) := by decide +kernel
theorem dX6_reel_24 : decode cX6_reel 24 = .ok (.iload_n 3, 1) := by decide +kernel
theorem dX6_reel_25 : decode cX6_reel 25 = .ok (.ifCond .ge 9, 3) := by decide +kernel
theorem dX6_reel_28 : decode cX6_reel 28 = .ok (.aload_n 0, 1) := by decide +kernel
theorem dX6_reel_29 : decode cX6_reel 29 = .ok (.iconst 5, 1) := by decide +kernel
theorem dX6_reel_30 : decode cX6_reel 30 = .ok (.invokevirtual 109, 3) := by decide +kernel
theorem dX6_reel_33 : decode cX6_reel 33 = .ok (.ireturn, 1) := by decide +kernel
theorem dX6_reel_34 : decode cX6_reel 34 = .ok (.aload_n 0, 1) := by decide +kernel
theorem dX6_reel_35 : decode cX6_reel 35 = .ok (.getfield 17, 3) := by decide +kernel
theorem dX6_reel_38 : decode cX6_reel 38 = .ok (.iload_n 1, 1) := by decide +kernel
theorem dX6_reel_39 : decode cX6_reel 39 = .ok (.aaload, 1) := by decide +kernel
theorem dX6_reel_40 : decode cX6_reel 40 = .ok (.iload_n 2, 1) := by decide +kernel
theorem dX6_reel_41 : decode cX6_reel 41 = .ok (.iload_n 3, 1) := by decide +kernel
theorem dX6_reel_42 : decode cX6_reel 42 = .ok (.invokevirtual 231, 3) := by decide +kernel
theorem dX6_reel_45 : decode cX6_reel 45 = .ok (.iload_n 3, 1) := by decide +kernel
theorem dX6_reel_46 : decode cX6_reel 46 = .ok (.ireturn, 1) := by decide +kernel
set_option maxRecDepth 20000 in
theorem ggX6_lose_X6_isReel : GoodIn wsX6_lose wsX6_isReel := goodIn_r _ [5] (by decide +kernel) (by decide +kernel)
set_option maxRecDepth 20000 in
theorem gX6_lose_X6_isReel : GoodIn wsX6_lose (va_wsS RX6 99 yX6_isReel wsX6_isReel) := goodIn_app (goodIn_of _ (by decide +kernel)) ggX6_lose_X6_isReel
set_option maxRecDepth 20000 in
theorem ggX6_lose_X6_found : GoodIn wsX6_lose wsX6_found := goodIn_r _ [9, 10, 11, 12, 13, 14, 15, 16, 17, 18] (by decide +kernel) (by decide +kernel)
set_option maxRecDepth 20000 in
theorem gX6_lose_X6_found : GoodIn wsX6_lose (wsV RX6 109 RX6 yX6_found wsX6_found) := goodIn_app (goodIn_of _ (by decide +kernel)) ggX6_lose_X6_found
theorem dX6_lose_0 : decode cX6_lose 0 = .ok (.iload_n 1, 1) := by decide +kernel
theorem dX6_lose_1 : decode cX6_lose 1 = .ok (.invokestatic 99, 3) := by decide +kernel
theorem dX6_lose_4 : decode cX6_lose 4 = .ok (.ifCond .ne 6, 3) := by decide +kernel
theorem dX6_lose_7 : decode cX6_lose 7 = .ok (.bipush (-2), 2) := by decide +kernel
theorem dX6_lose_9 : decode cX6_lose 9 = .ok (.ireturn, 1) := by decide +kernel
theorem dX6_lose_10 : decode cX6_lose 10 = .ok (.aload_n 0, 1) := by decide +kernel
theorem dX6_lose_11 : decode cX6_lose 11 = .ok (.getfield 17, 3) := by decide +kernel
theorem dX6_lose_14 : decode cX6_lose 14 = .ok (.iload_n 1, 1) := by decide +kernel
theorem dX6_lose_15 : decode cX6_lose 15 = .ok (.aaload, 1) := by decide +kernel
theorem dX6_lose_16 : decode cX6_lose 16 = .ok (.getfield 105, 3) := by decide +kernel
theorem dX6_lose_19 : decode cX6_lose 19 = .ok (.ifCond .eq 9, 3) := by decide +kernel
theorem dX6_lose_22 : decode cX6_lose 22 = .ok (.aload_n 0, 1) := by decide +kernel
theorem dX6_lose_23 : decode cX6_lose 23 = .ok (.iconst 1, 1) := by decide +kernel
theorem dX6_lose_24 : decode cX6_lose 24 = .ok (.invokevirtual 109, 3) := by decide +kernel
theorem dX6_lose_27 : decode cX6_lose 27 = .ok (.ireturn, 1) := by decide +kernel
theorem dX6_lose_28 : decode cX6_lose 28 = .ok (.aload_n 0, 1) := by decide +kernel
theorem dX6_lose_29 : decode cX6_lose 29 = .ok (.getfield 17, 3) := by decide +kernel
theorem dX6_lose_32 : decode cX6_lose 32 = .ok (.iload_n 1, 1) := by decide +kernel
theorem dX6_lose_33 : decode cX6_lose 33 = .ok (.aaload, 1) := by decide +kernel
theorem dX6_lose_34 : decode cX6_lose 34 = .ok (.iconst 1, 1) := by decide +kernel
theorem dX6_lose_35 : decode cX6_lose 35 = .ok (.putfield 105, 3) := by decide +kernel
theorem dX6_lose_38 : decode cX6_lose 38 = .ok (.aload_n 0, 1) := by decide +kernel
theorem dX6_lose_39 : decode cX6_lose 39 = .ok (.getfield 17, 3) := by decide +kernel
theorem dX6_lose_42 : decode cX6_lose 42 = .ok (.iload_n 1, 1) := by decide +kernel
theorem dX6_lose_43 : decode cX6_lose 43 = .ok (.aaload, 1) := by decide +kernel
theorem dX6_lose_44 : decode cX6_lose 44 = .ok (.getfield 112, 3) := by decide +kernel
theorem dX6_lose_47 : decode cX6_lose 47 = .ok (.ireturn, 1) := by decide +kernel
set_option maxRecDepth 20000 in
theorem ggX6_put_X6_isReel : GoodIn wsX6_put wsX6_isReel := goodIn_r _ [5] (by decide +kernel) (by decide +kernel)
set_option maxRecDepth 20000 in
theorem gX6_put_X6_isReel : GoodIn wsX6_put (va_wsS RX6 99 yX6_isReel wsX6_isReel) := goodIn_app (goodIn_of _ (by decide +kernel)) ggX6_put_X6_isReel
set_option maxRecDepth 20000 in
theorem ggX6_put_X6_isForm : GoodIn wsX6_put wsX6_isForm := goodIn_r _ [8] (by decide +kernel) (by decide +kernel)
set_option maxRecDepth 20000 in
theorem gX6_put_X6_isForm : GoodIn wsX6_put (va_wsS RX6 228 yX6_isForm wsX6_isForm) := goodIn_app (goodIn_of _ (by decide +kernel)) ggX6_put_X6_isForm
set_option maxRecDepth 20000 in
theorem ggX6_put_X2_troubleAt : GoodIn wsX6_put wsX2_troubleAt := goodIn_r _ [13, 14, 15, 16, 17, 18, 12, 19, 20, 43, 44, 45, 46] (by decide +kernel) (by decide +kernel)
set_option maxRecDepth 20000 in
theorem gX6_put_X2_troubleAt : GoodIn wsX6_put (wsV RX6 234 RX2 yX2_troubleAt wsX2_troubleAt) := goodIn_app (goodIn_of _ (by decide +kernel)) ggX6_put_X2_troubleAt
set_option maxRecDepth 20000 in
theorem ggX6_put_X6_found : GoodIn wsX6_put wsX6_found := goodIn_r _ [24, 25, 35, 36, 37, 38, 39, 40, 41, 42] (by decide +kernel) (by decide +kernel)
set_option maxRecDepth 20000 in
theorem gX6_put_X6_found : GoodIn wsX6_put (wsV RX6 109 RX6 yX6_found wsX6_found) := goodIn_app (goodIn_of _ (by decide +kernel)) ggX6_put_X6_found
set_option maxRecDepth 20000 in
theorem ggX6_put_X2_keep : GoodIn wsX6_put wsX2_keep := goodIn_r _ [29, 30, 16, 17, 18, 12, 19, 14, 20, 31, 32, 33, 34, 15, 43, 44, 45, 46] (by decide +kernel) (by decide +kernel)
set_option maxRecDepth 20000 in
theorem gX6_put_X2_keep : GoodIn wsX6_put (wsV RX6 237 RX2 yX2_keep wsX2_keep) := goodIn_app (goodIn_of _ (by decide +kernel)) ggX6_put_X2_keep
theorem dX6_put_0 : decode cX6_put 0 = .ok (.iload_n 1, 1) := by decide +kernel
theorem dX6_put_1 : decode cX6_put 1 = .ok (.invokestatic 99, 3) := by decide +kernel
theorem dX6_put_4 : decode cX6_put 4 = .ok (.ifCond .eq 10, 3) := by decide +kernel
theorem dX6_put_7 : decode cX6_put 7 = .ok (.iload_n 2, 1) := by decide +kernel
theorem dX6_put_8 : decode cX6_put 8 = .ok (.invokestatic 228, 3) := by decide +kernel
theorem dX6_put_11 : decode cX6_put 11 = .ok (.ifCond .ne 6, 3) := by decide +kernel
theorem dX6_put_14 : decode cX6_put 14 = .ok (.bipush (-2), 2) := by decide +kernel
theorem dX6_put_16 : decode cX6_put 16 = .ok (.ireturn, 1) := by decide +kernel
theorem dX6_put_17 : decode cX6_put 17 = .ok (.aload_n 0, 1) := by decide +kernel
theorem dX6_put_18 : decode cX6_put 18 = .ok (.getfield 17, 3) := by decide +kernel
theorem dX6_put_21 : decode cX6_put 21 = .ok (.iload_n 1, 1) := by decide +kernel
theorem dX6_put_22 : decode cX6_put 22 = .ok (.aaload, 1) := by decide +kernel
theorem dX6_put_23 : decode cX6_put 23 = .ok (.iload_n 2, 1) := by decide +kernel
theorem dX6_put_24 : decode cX6_put 24 = .ok (.iload_n 3, 1) := by decide +kernel
theorem dX6_put_25 : decode cX6_put 25 = .ok (.invokevirtual 234, 3) := by decide +kernel
theorem dX6_put_28 : decode cX6_put 28 = .ok (.istore 5, 2) := by decide +kernel
theorem dX6_put_30 : decode cX6_put 30 = .ok (.iload 5, 2) := by decide +kernel
theorem dX6_put_32 : decode cX6_put 32 = .ok (.ifCond .eq 10, 3) := by decide +kernel
theorem dX6_put_35 : decode cX6_put 35 = .ok (.aload_n 0, 1) := by decide +kernel
theorem dX6_put_36 : decode cX6_put 36 = .ok (.iload 5, 2) := by decide +kernel
theorem dX6_put_38 : decode cX6_put 38 = .ok (.invokevirtual 109, 3) := by decide +kernel
theorem dX6_put_41 : decode cX6_put 41 = .ok (.ireturn, 1) := by decide +kernel
theorem dX6_put_42 : decode cX6_put 42 = .ok (.aload_n 0, 1) := by decide +kernel
theorem dX6_put_43 : decode cX6_put 43 = .ok (.getfield 17, 3) := by decide +kernel
theorem dX6_put_46 : decode cX6_put 46 = .ok (.iload_n 1, 1) := by decide +kernel
theorem dX6_put_47 : decode cX6_put 47 = .ok (.aaload, 1) := by decide +kernel
theorem dX6_put_48 : decode cX6_put 48 = .ok (.iload_n 3, 1) := by decide +kernel
theorem dX6_put_49 : decode cX6_put 49 = .ok (.iload 4, 2) := by decide +kernel
theorem dX6_put_51 : decode cX6_put 51 = .ok (.invokevirtual 237, 3) := by decide +kernel
theorem dX6_put_54 : decode cX6_put 54 = .ok (.iconst 1, 1) := by decide +kernel
theorem dX6_put_55 : decode cX6_put 55 = .ok (.ireturn, 1) := by decide +kernel
set_option maxRecDepth 20000 in
theorem ggX6_get_X6_isReel : GoodIn wsX6_get wsX6_isReel := goodIn_r _ [6] (by decide +kernel) (by decide +kernel)
set_option maxRecDepth 20000 in
theorem gX6_get_X6_isReel : GoodIn wsX6_get (va_wsS RX6 99 yX6_isReel wsX6_isReel) := goodIn_app (goodIn_of _ (by decide +kernel)) ggX6_get_X6_isReel
set_option maxRecDepth 20000 in
theorem ggX6_get_X6_isForm : GoodIn wsX6_get wsX6_isForm := goodIn_r _ [9] (by decide +kernel) (by decide +kernel)
set_option maxRecDepth 20000 in
theorem gX6_get_X6_isForm : GoodIn wsX6_get (va_wsS RX6 228 yX6_isForm wsX6_isForm) := goodIn_app (goodIn_of _ (by decide +kernel)) ggX6_get_X6_isForm
set_option maxRecDepth 20000 in
theorem ggX6_get_X2_troubleAt : GoodIn wsX6_get wsX2_troubleAt := goodIn_r _ [14, 15, 16, 17, 18, 19, 13, 20, 21, 40, 41, 42, 43] (by decide +kernel) (by decide +kernel)
set_option maxRecDepth 20000 in
theorem gX6_get_X2_troubleAt : GoodIn wsX6_get (wsV RX6 234 RX2 yX2_troubleAt wsX2_troubleAt) := goodIn_app (goodIn_of _ (by decide +kernel)) ggX6_get_X2_troubleAt
set_option maxRecDepth 20000 in
theorem ggX6_get_X6_found : GoodIn wsX6_get wsX6_found := goodIn_r _ [25, 26, 32, 33, 34, 35, 36, 37, 38, 39] (by decide +kernel) (by decide +kernel)
set_option maxRecDepth 20000 in
theorem gX6_get_X6_found : GoodIn wsX6_get (wsV RX6 109 RX6 yX6_found wsX6_found) := goodIn_app (goodIn_of _ (by decide +kernel)) ggX6_get_X6_found
set_option maxRecDepth 20000 in
theorem ggX6_get_X2_itemOrZero : GoodIn wsX6_get wsX2_itemOrZero := goodIn_r _ [30, 31, 17, 18, 19, 13, 20, 15, 21, 40, 41, 42, 43] (by decide +kernel) (by decide +kernel)
set_option maxRecDepth 20000 in
theorem gX6_get_X2_itemOrZero : GoodIn wsX6_get (wsV RX6 238 RX2 yX2_itemOrZero wsX2_itemOrZero) := goodIn_app (goodIn_of _ (by decide +kernel)) ggX6_get_X2_itemOrZero
theorem dX6_get_0 : decode cX6_get 0 = .ok (.iload_n 1, 1) := by decide +kernel
theorem dX6_get_1 : decode cX6_get 1 = .ok (.invokestatic 99, 3) := by decide +kernel
theorem dX6_get_4 : decode cX6_get 4 = .ok (.ifCond .eq 10, 3) := by decide +kernel
theorem dX6_get_7 : decode cX6_get 7 = .ok (.iload_n 2, 1) := by decide +kernel
theorem dX6_get_8 : decode cX6_get 8 = .ok (.invokestatic 228, 3) := by decide +kernel
theorem dX6_get_11 : decode cX6_get 11 = .ok (.ifCond .ne 6, 3) := by decide +kernel
theorem dX6_get_14 : decode cX6_get 14 = .ok (.ldc 141, 2) := by decide +kernel
theorem dX6_get_16 : decode cX6_get 16 = .ok (.ireturn, 1) := by decide +kernel
theorem dX6_get_17 : decode cX6_get 17 = .ok (.aload_n 0, 1) := by decide +kernel
theorem dX6_get_18 : decode cX6_get 18 = .ok (.getfield 17, 3) := by decide +kernel
theorem dX6_get_21 : decode cX6_get 21 = .ok (.iload_n 1, 1) := by decide +kernel
theorem dX6_get_22 : decode cX6_get 22 = .ok (.aaload, 1) := by decide +kernel
theorem dX6_get_23 : decode cX6_get 23 = .ok (.iload_n 2, 1) := by decide +kernel
theorem dX6_get_24 : decode cX6_get 24 = .ok (.iload_n 3, 1) := by decide +kernel
theorem dX6_get_25 : decode cX6_get 25 = .ok (.invokevirtual 234, 3) := by decide +kernel
theorem dX6_get_28 : decode cX6_get 28 = .ok (.istore 4, 2) := by decide +kernel
theorem dX6_get_30 : decode cX6_get 30 = .ok (.iload 4, 2) := by decide +kernel
theorem dX6_get_32 : decode cX6_get 32 = .ok (.ifCond .eq 13, 3) := by decide +kernel
theorem dX6_get_35 : decode cX6_get 35 = .ok (.aload_n 0, 1) := by decide +kernel
theorem dX6_get_36 : decode cX6_get 36 = .ok (.iload 4, 2) := by decide +kernel
theorem dX6_get_38 : decode cX6_get 38 = .ok (.invokevirtual 109, 3) := by decide +kernel
theorem dX6_get_41 : decode cX6_get 41 = .ok (.pop, 1) := by decide +kernel
theorem dX6_get_42 : decode cX6_get 42 = .ok (.ldc 141, 2) := by decide +kernel
theorem dX6_get_44 : decode cX6_get 44 = .ok (.ireturn, 1) := by decide +kernel
theorem dX6_get_45 : decode cX6_get 45 = .ok (.aload_n 0, 1) := by decide +kernel
theorem dX6_get_46 : decode cX6_get 46 = .ok (.getfield 17, 3) := by decide +kernel
theorem dX6_get_49 : decode cX6_get 49 = .ok (.iload_n 1, 1) := by decide +kernel
theorem dX6_get_50 : decode cX6_get 50 = .ok (.aaload, 1) := by decide +kernel
theorem dX6_get_51 : decode cX6_get 51 = .ok (.iload_n 3, 1) := by decide +kernel
theorem dX6_get_52 : decode cX6_get 52 = .ok (.invokevirtual 238, 3) := by decide +kernel
theorem dX6_get_55 : decode cX6_get 55 = .ok (.ireturn, 1) := by decide +kernel
set_option maxRecDepth 20000 in
theorem ggX6_copy_X6_isReel : GoodIn wsX6_copy wsX6_isReel := goodIn_r _ [9] (by decide +kernel) (by decide +kernel)
set_option maxRecDepth 20000 in
theorem gX6_copy_X6_isReel : GoodIn wsX6_copy (va_wsS RX6 99 yX6_isReel wsX6_isReel) := goodIn_app (goodIn_of _ (by decide +kernel)) ggX6_copy_X6_isReel
set_option maxRecDepth 20000 in
theorem ggX6_copy_X6_found : GoodIn wsX6_copy wsX6_found := goodIn_r _ [13, 14, 21, 22, 23, 24, 25, 26, 27, 28] (by decide +kernel) (by decide +kernel)
set_option maxRecDepth 20000 in
theorem gX6_copy_X6_found : GoodIn wsX6_copy (wsV RX6 109 RX6 yX6_found wsX6_found) := goodIn_app (goodIn_of _ (by decide +kernel)) ggX6_copy_X6_found
set_option maxRecDepth 20000 in
theorem ggX6_copy_X2_hasSpan : GoodIn wsX6_copy wsX2_hasSpan := goodIn_r _ [19, 20, 29, 30, 31, 32] (by decide +kernel) (by decide +kernel)
set_option maxRecDepth 20000 in
theorem gX6_copy_X2_hasSpan : GoodIn wsX6_copy (wsV RX6 244 RX2 yX2_hasSpan wsX2_hasSpan) := goodIn_app (goodIn_of _ (by decide +kernel)) ggX6_copy_X2_hasSpan
theorem dX6_copy_0 : decode cX6_copy 0 = .ok (.iload_n 1, 1) := by decide +kernel
theorem dX6_copy_1 : decode cX6_copy 1 = .ok (.invokestatic 99, 3) := by decide +kernel
theorem dX6_copy_4 : decode cX6_copy 4 = .ok (.ifCond .eq 10, 3) := by decide +kernel
theorem dX6_copy_7 : decode cX6_copy 7 = .ok (.iload_n 3, 1) := by decide +kernel
theorem dX6_copy_8 : decode cX6_copy 8 = .ok (.invokestatic 99, 3) := by decide +kernel
theorem dX6_copy_11 : decode cX6_copy 11 = .ok (.ifCond .ne 6, 3) := by decide +kernel
theorem dX6_copy_14 : decode cX6_copy 14 = .ok (.bipush (-2), 2) := by decide +kernel
theorem dX6_copy_16 : decode cX6_copy 16 = .ok (.ireturn, 1) := by decide +kernel
theorem dX6_copy_17 : decode cX6_copy 17 = .ok (.aload_n 0, 1) := by decide +kernel
theorem dX6_copy_18 : decode cX6_copy 18 = .ok (.getfield 17, 3) := by decide +kernel
theorem dX6_copy_21 : decode cX6_copy 21 = .ok (.iload_n 1, 1) := by decide +kernel
theorem dX6_copy_22 : decode cX6_copy 22 = .ok (.aaload, 1) := by decide +kernel
theorem dX6_copy_23 : decode cX6_copy 23 = .ok (.getfield 105, 3) := by decide +kernel
theorem dX6_copy_26 : decode cX6_copy 26 = .ok (.ifCond .ne 15, 3) := by decide +kernel
theorem dX6_copy_29 : decode cX6_copy 29 = .ok (.aload_n 0, 1) := by decide +kernel
theorem dX6_copy_30 : decode cX6_copy 30 = .ok (.getfield 17, 3) := by decide +kernel
theorem dX6_copy_33 : decode cX6_copy 33 = .ok (.iload_n 3, 1) := by decide +kernel
theorem dX6_copy_34 : decode cX6_copy 34 = .ok (.aaload, 1) := by decide +kernel
theorem dX6_copy_35 : decode cX6_copy 35 = .ok (.getfield 105, 3) := by decide +kernel
theorem dX6_copy_38 : decode cX6_copy 38 = .ok (.ifCond .eq 9, 3) := by decide +kernel
theorem dX6_copy_41 : decode cX6_copy 41 = .ok (.aload_n 0, 1) := by decide +kernel
theorem dX6_copy_42 : decode cX6_copy 42 = .ok (.iconst 1, 1) := by decide +kernel
theorem dX6_copy_43 : decode cX6_copy 43 = .ok (.invokevirtual 109, 3) := by decide +kernel
theorem dX6_copy_46 : decode cX6_copy 46 = .ok (.ireturn, 1) := by decide +kernel
theorem dX6_copy_47 : decode cX6_copy 47 = .ok (.aload_n 0, 1) := by decide +kernel
theorem dX6_copy_48 : decode cX6_copy 48 = .ok (.getfield 17, 3) := by decide +kernel
theorem dX6_copy_51 : decode cX6_copy 51 = .ok (.iload_n 1, 1) := by decide +kernel
theorem dX6_copy_52 : decode cX6_copy 52 = .ok (.aaload, 1) := by decide +kernel
theorem dX6_copy_53 : decode cX6_copy 53 = .ok (.getfield 241, 3) := by decide +kernel
theorem dX6_copy_56 : decode cX6_copy 56 = .ok (.aload_n 0, 1) := by decide +kernel
theorem dX6_copy_57 : decode cX6_copy 57 = .ok (.getfield 17, 3) := by decide +kernel
theorem dX6_copy_60 : decode cX6_copy 60 = .ok (.iload_n 3, 1) := by decide +kernel
theorem dX6_copy_61 : decode cX6_copy 61 = .ok (.aaload, 1) := by decide +kernel
theorem dX6_copy_62 : decode cX6_copy 62 = .ok (.getfield 241, 3) := by decide +kernel
theorem dX6_copy_65 : decode cX6_copy 65 = .ok (.if_icmp .eq 9, 3) := by decide +kernel
theorem dX6_copy_68 : decode cX6_copy 68 = .ok (.aload_n 0, 1) := by decide +kernel
theorem dX6_copy_69 : decode cX6_copy 69 = .ok (.iconst 4, 1) := by decide +kernel
theorem dX6_copy_70 : decode cX6_copy 70 = .ok (.invokevirtual 109, 3) := by decide +kernel
theorem dX6_copy_73 : decode cX6_copy 73 = .ok (.ireturn, 1) := by decide +kernel
theorem dX6_copy_74 : decode cX6_copy 74 = .ok (.aload_n 0, 1) := by decide +kernel
theorem dX6_copy_75 : decode cX6_copy 75 = .ok (.getfield 17, 3) := by decide +kernel
theorem dX6_copy_78 : decode cX6_copy 78 = .ok (.iload_n 1, 1) := by decide +kernel
theorem dX6_copy_79 : decode cX6_copy 79 = .ok (.aaload, 1) := by decide +kernel
theorem dX6_copy_80 : decode cX6_copy 80 = .ok (.iload_n 2, 1) := by decide +kernel
theorem dX6_copy_81 : decode cX6_copy 81 = .ok (.iload 5, 2) := by decide +kernel
theorem dX6_copy_83 : decode cX6_copy 83 = .ok (.invokevirtual 244, 3) := by decide +kernel
theorem dX6_copy_86 : decode cX6_copy 86 = .ok (.ifCond .eq 19, 3) := by decide +kernel
theorem dX6_copy_89 : decode cX6_copy 89 = .ok (.aload_n 0, 1) := by decide +kernel
theorem dX6_copy_90 : decode cX6_copy 90 = .ok (.getfield 17, 3) := by decide +kernel
theorem dX6_copy_93 : decode cX6_copy 93 = .ok (.iload_n 3, 1) := by decide +kernel
theorem dX6_copy_94 : decode cX6_copy 94 = .ok (.aaload, 1) := by decide +kernel
theorem dX6_copy_95 : decode cX6_copy 95 = .ok (.iload 4, 2) := by decide +kernel
theorem dX6_copy_97 : decode cX6_copy 97 = .ok (.iload 5, 2) := by decide +kernel
theorem dX6_copy_99 : decode cX6_copy 99 = .ok (.invokevirtual 244, 3) := by decide +kernel
theorem dX6_copy_102 : decode cX6_copy 102 = .ok (.ifCond .ne 9, 3) := by decide +kernel
theorem dX6_copy_105 : decode cX6_copy 105 = .ok (.aload_n 0, 1) := by decide +kernel
theorem dX6_copy_106 : decode cX6_copy 106 = .ok (.iconst 2, 1) := by decide +kernel
theorem dX6_copy_107 : decode cX6_copy 107 = .ok (.invokevirtual 109, 3) := by decide +kernel
theorem dX6_copy_110 : decode cX6_copy 110 = .ok (.ireturn, 1) := by decide +kernel
theorem dX6_copy_111 : decode cX6_copy 111 = .ok (.aload_n 0, 1) := by decide +kernel
theorem dX6_copy_112 : decode cX6_copy 112 = .ok (.getfield 17, 3) := by decide +kernel
theorem dX6_copy_115 : decode cX6_copy 115 = .ok (.iload_n 1, 1) := by decide +kernel
theorem dX6_copy_116 : decode cX6_copy 116 = .ok (.aaload, 1) := by decide +kernel
theorem dX6_copy_117 : decode cX6_copy 117 = .ok (.getfield 113, 3) := by decide +kernel
theorem dX6_copy_120 : decode cX6_copy 120 = .ok (.iload_n 2, 1) := by decide +kernel
theorem dX6_copy_121 : decode cX6_copy 121 = .ok (.aload_n 0, 1) := by decide +kernel
theorem dX6_copy_122 : decode cX6_copy 122 = .ok (.getfield 17, 3) := by decide +kernel
theorem dX6_copy_125 : decode cX6_copy 125 = .ok (.iload_n 3, 1) := by decide +kernel
theorem dX6_copy_126 : decode cX6_copy 126 = .ok (.aaload, 1) := by decide +kernel
theorem dX6_copy_127 : decode cX6_copy 127 = .ok (.getfield 113, 3) := by decide +kernel
theorem dX6_copy_130 : decode cX6_copy 130 = .ok (.iload 4, 2) := by decide +kernel
theorem dX6_copy_132 : decode cX6_copy 132 = .ok (.iload 5, 2) := by decide +kernel
theorem dX6_copy_134 : decode cX6_copy 134 = .ok (.invokestatic 247, 3) := by decide +kernel
theorem dX6_copy_137 : decode cX6_copy 137 = .ok (.iconst 1, 1) := by decide +kernel
theorem dX6_copy_138 : decode cX6_copy 138 = .ok (.ireturn, 1) := by decide +kernel
set_option maxRecDepth 20000 in
theorem ggX6_add_X6_isRow : GoodIn wsX6_add wsX6_isRow := goodIn_r _ [10] (by decide +kernel) (by decide +kernel)
set_option maxRecDepth 20000 in
theorem gX6_add_X6_isRow : GoodIn wsX6_add (va_wsS RX6 58 yX6_isRow wsX6_isRow) := goodIn_app (goodIn_of _ (by decide +kernel)) ggX6_add_X6_isRow
set_option maxRecDepth 20000 in
theorem ggX6_add_X6_isReel : GoodIn wsX6_add wsX6_isReel := goodIn_r _ [13] (by decide +kernel) (by decide +kernel)
set_option maxRecDepth 20000 in
theorem gX6_add_X6_isReel : GoodIn wsX6_add (va_wsS RX6 99 yX6_isReel wsX6_isReel) := goodIn_app (goodIn_of _ (by decide +kernel)) ggX6_add_X6_isReel
set_option maxRecDepth 20000 in
theorem ggX6_add_X6_isShift : GoodIn wsX6_add wsX6_isShift := goodIn_r _ [16] (by decide +kernel) (by decide +kernel)
set_option maxRecDepth 20000 in
theorem gX6_add_X6_isShift : GoodIn wsX6_add (va_wsS RX6 80 yX6_isShift wsX6_isShift) := goodIn_app (goodIn_of _ (by decide +kernel)) ggX6_add_X6_isShift
set_option maxRecDepth 20000 in
theorem ggX6_add_X6_found : GoodIn wsX6_add wsX6_found := goodIn_r _ [20, 21, 58, 59, 60, 61, 62, 63, 64, 65] (by decide +kernel) (by decide +kernel)
set_option maxRecDepth 20000 in
theorem gX6_add_X6_found : GoodIn wsX6_add (wsV RX6 109 RX6 yX6_found wsX6_found) := goodIn_app (goodIn_of _ (by decide +kernel)) ggX6_add_X6_found
set_option maxRecDepth 20000 in
theorem ggX6_add_X3_isNone : GoodIn wsX6_add wsX3_isNone := goodIn_r _ [26, 27, 70, 71] (by decide +kernel) (by decide +kernel)
set_option maxRecDepth 20000 in
theorem gX6_add_X3_isNone : GoodIn wsX6_add (wsV RX6 116 RX3 yX3_isNone wsX3_isNone) := goodIn_app (goodIn_of _ (by decide +kernel)) ggX6_add_X3_isNone
set_option maxRecDepth 20000 in
theorem ggX6_add_X3_signAt : GoodIn wsX6_add wsX3_signAt := goodIn_r _ [31, 27, 32, 33, 34, 35, 36, 70, 71] (by decide +kernel) (by decide +kernel)
set_option maxRecDepth 20000 in
theorem gX6_add_X3_signAt : GoodIn wsX6_add (wsV RX6 91 RX3 yX3_signAt wsX3_signAt) := goodIn_app (goodIn_of _ (by decide +kernel)) ggX6_add_X3_signAt
set_option maxRecDepth 20000 in
theorem ggX6_add_X2_itemOrZero : GoodIn wsX6_add wsX2_itemOrZero := goodIn_r _ [41, 42, 43, 44, 45, 40, 46, 47, 48, 66, 67, 68, 69] (by decide +kernel) (by decide +kernel)
set_option maxRecDepth 20000 in
theorem gX6_add_X2_itemOrZero : GoodIn wsX6_add (wsV RX6 238 RX2 yX2_itemOrZero wsX2_itemOrZero) := goodIn_app (goodIn_of _ (by decide +kernel)) ggX6_add_X2_itemOrZero
set_option maxRecDepth 20000 in
theorem ggX6_add_X2_keep : GoodIn wsX6_add wsX2_keep := goodIn_r _ [52, 42, 43, 44, 45, 40, 46, 47, 48, 53, 54, 55, 56, 57, 66, 67, 68, 69] (by decide +kernel) (by decide +kernel)
set_option maxRecDepth 20000 in
theorem gX6_add_X2_keep : GoodIn wsX6_add (wsV RX6 237 RX2 yX2_keep wsX2_keep) := goodIn_app (goodIn_of _ (by decide +kernel)) ggX6_add_X2_keep
theorem dX6_add_0 : decode cX6_add 0 = .ok (.iload_n 1, 1) := by decide +kernel
theorem dX6_add_1 : decode cX6_add 1 = .ok (.invokestatic 58, 3) := by decide +kernel
theorem dX6_add_4 : decode cX6_add 4 = .ok (.ifCond .eq 38, 3) := by decide +kernel
theorem dX6_add_7 : decode cX6_add 7 = .ok (.iload_n 2, 1) := by decide +kernel
theorem dX6_add_8 : decode cX6_add 8 = .ok (.invokestatic 99, 3) := by decide +kernel
theorem dX6_add_11 : decode cX6_add 11 = .ok (.ifCond .eq 31, 3) := by decide +kernel
theorem dX6_add_14 : decode cX6_add 14 = .ok (.iload_n 3, 1) := by decide +kernel
theorem dX6_add_15 : decode cX6_add 15 = .ok (.ifCond .lt 27, 3) := by decide +kernel
theorem dX6_add_18 : decode cX6_add 18 = .ok (.iload 4, 2) := by decide +kernel
theorem dX6_add_20 : decode cX6_add 20 = .ok (.invokestatic 80, 3) := by decide +kernel
theorem dX6_add_23 : decode cX6_add 23 = .ok (.ifCond .eq 19, 3) := by decide +kernel
theorem dX6_add_26 : decode cX6_add 26 = .ok (.iload 5, 2) := by decide +kernel
theorem dX6_add_28 : decode cX6_add 28 = .ok (.sipush (-1000), 3) := by decide +kernel
theorem dX6_add_31 : decode cX6_add 31 = .ok (.if_icmp .lt 11, 3) := by decide +kernel
theorem dX6_add_34 : decode cX6_add 34 = .ok (.iload 5, 2) := by decide +kernel
end
section
theorem dX6_add_36 : decode cX6_add 36 = .ok (.sipush 1000, 3) := by decide +kernel
theorem dX6_add_39 : decode cX6_add 39 = .ok (.if_icmp .le 6, 3) := by decide +kernel
theorem dX6_add_42 : decode cX6_add 42 = .ok (.bipush (-2), 2) := by decide +kernel
theorem dX6_add_44 : decode cX6_add 44 = .ok (.ireturn, 1) := by decide +kernel
theorem dX6_add_45 : decode cX6_add 45 = .ok (.aload_n 0, 1) := by decide +kernel
theorem dX6_add_46 : decode cX6_add 46 = .ok (.getfield 17, 3) := by decide +kernel
theorem dX6_add_49 : decode cX6_add 49 = .ok (.iload_n 2, 1) := by decide +kernel
theorem dX6_add_50 : decode cX6_add 50 = .ok (.aaload, 1) := by decide +kernel
theorem dX6_add_51 : decode cX6_add 51 = .ok (.getfield 105, 3) := by decide +kernel
theorem dX6_add_54 : decode cX6_add 54 = .ok (.ifCond .eq 9, 3) := by decide +kernel
theorem dX6_add_57 : decode cX6_add 57 = .ok (.aload_n 0, 1) := by decide +kernel
theorem dX6_add_58 : decode cX6_add 58 = .ok (.iconst 1, 1) := by decide +kernel
theorem dX6_add_59 : decode cX6_add 59 = .ok (.invokevirtual 109, 3) := by decide +kernel
theorem dX6_add_62 : decode cX6_add 62 = .ok (.ireturn, 1) := by decide +kernel
theorem dX6_add_63 : decode cX6_add 63 = .ok (.aload_n 0, 1) := by decide +kernel
theorem dX6_add_64 : decode cX6_add 64 = .ok (.getfield 11, 3) := by decide +kernel
theorem dX6_add_67 : decode cX6_add 67 = .ok (.iload_n 1, 1) := by decide +kernel
theorem dX6_add_68 : decode cX6_add 68 = .ok (.aaload, 1) := by decide +kernel
theorem dX6_add_69 : decode cX6_add 69 = .ok (.invokevirtual 116, 3) := by decide +kernel
theorem dX6_add_72 : decode cX6_add 72 = .ok (.ifCond .eq 6, 3) := by decide +kernel
theorem dX6_add_75 : decode cX6_add 75 = .ok (.bipush (-3), 2) := by decide +kernel
theorem dX6_add_77 : decode cX6_add 77 = .ok (.ireturn, 1) := by decide +kernel
theorem dX6_add_78 : decode cX6_add 78 = .ok (.iload_n 3, 1) := by decide +kernel
theorem dX6_add_79 : decode cX6_add 79 = .ok (.aload_n 0, 1) := by decide +kernel
theorem dX6_add_80 : decode cX6_add 80 = .ok (.getfield 17, 3) := by decide +kernel
theorem dX6_add_83 : decode cX6_add 83 = .ok (.iload_n 2, 1) := by decide +kernel
theorem dX6_add_84 : decode cX6_add 84 = .ok (.aaload, 1) := by decide +kernel
theorem dX6_add_85 : decode cX6_add 85 = .ok (.getfield 112, 3) := by decide +kernel
theorem dX6_add_88 : decode cX6_add 88 = .ok (.if_icmp .le 9, 3) := by decide +kernel
theorem dX6_add_91 : decode cX6_add 91 = .ok (.aload_n 0, 1) := by decide +kernel
theorem dX6_add_92 : decode cX6_add 92 = .ok (.iconst 2, 1) := by decide +kernel
theorem dX6_add_93 : decode cX6_add 93 = .ok (.invokevirtual 109, 3) := by decide +kernel
theorem dX6_add_96 : decode cX6_add 96 = .ok (.ireturn, 1) := by decide +kernel
theorem dX6_add_97 : decode cX6_add 97 = .ok (.aload_n 0, 1) := by decide +kernel
theorem dX6_add_98 : decode cX6_add 98 = .ok (.getfield 11, 3) := by decide +kernel
theorem dX6_add_101 : decode cX6_add 101 = .ok (.iload_n 1, 1) := by decide +kernel
theorem dX6_add_102 : decode cX6_add 102 = .ok (.aaload, 1) := by decide +kernel
theorem dX6_add_103 : decode cX6_add 103 = .ok (.getfield 70, 3) := by decide +kernel
theorem dX6_add_106 : decode cX6_add 106 = .ok (.aload_n 0, 1) := by decide +kernel
theorem dX6_add_107 : decode cX6_add 107 = .ok (.getfield 17, 3) := by decide +kernel
theorem dX6_add_110 : decode cX6_add 110 = .ok (.iload_n 2, 1) := by decide +kernel
theorem dX6_add_111 : decode cX6_add 111 = .ok (.aaload, 1) := by decide +kernel
theorem dX6_add_112 : decode cX6_add 112 = .ok (.getfield 112, 3) := by decide +kernel
theorem dX6_add_115 : decode cX6_add 115 = .ok (.iload_n 3, 1) := by decide +kernel
theorem dX6_add_116 : decode cX6_add 116 = .ok (.isub, 1) := by decide +kernel
theorem dX6_add_117 : decode cX6_add 117 = .ok (.invokestatic 253, 3) := by decide +kernel
theorem dX6_add_120 : decode cX6_add 120 = .ok (.istore 6, 2) := by decide +kernel
theorem dX6_add_122 : decode cX6_add 122 = .ok (.iconst 0, 1) := by decide +kernel
theorem dX6_add_123 : decode cX6_add 123 = .ok (.istore 7, 2) := by decide +kernel
theorem dX6_add_125 : decode cX6_add 125 = .ok (.iload 7, 2) := by decide +kernel
theorem dX6_add_127 : decode cX6_add 127 = .ok (.iload 6, 2) := by decide +kernel
theorem dX6_add_129 : decode cX6_add 129 = .ok (.if_icmp .ge 57, 3) := by decide +kernel
theorem dX6_add_132 : decode cX6_add 132 = .ok (.iload 5, 2) := by decide +kernel
theorem dX6_add_134 : decode cX6_add 134 = .ok (.aload_n 0, 1) := by decide +kernel
theorem dX6_add_135 : decode cX6_add 135 = .ok (.getfield 11, 3) := by decide +kernel
theorem dX6_add_138 : decode cX6_add 138 = .ok (.iload_n 1, 1) := by decide +kernel
theorem dX6_add_139 : decode cX6_add 139 = .ok (.aaload, 1) := by decide +kernel
theorem dX6_add_140 : decode cX6_add 140 = .ok (.iload 7, 2) := by decide +kernel
theorem dX6_add_142 : decode cX6_add 142 = .ok (.iload 4, 2) := by decide +kernel
theorem dX6_add_144 : decode cX6_add 144 = .ok (.iadd, 1) := by decide +kernel
theorem dX6_add_145 : decode cX6_add 145 = .ok (.invokevirtual 91, 3) := by decide +kernel
theorem dX6_add_148 : decode cX6_add 148 = .ok (.imul, 1) := by decide +kernel
theorem dX6_add_149 : decode cX6_add 149 = .ok (.istore 8, 2) := by decide +kernel
theorem dX6_add_151 : decode cX6_add 151 = .ok (.aload_n 0, 1) := by decide +kernel
theorem dX6_add_152 : decode cX6_add 152 = .ok (.getfield 17, 3) := by decide +kernel
theorem dX6_add_155 : decode cX6_add 155 = .ok (.iload_n 2, 1) := by decide +kernel
theorem dX6_add_156 : decode cX6_add 156 = .ok (.aaload, 1) := by decide +kernel
theorem dX6_add_157 : decode cX6_add 157 = .ok (.iload_n 3, 1) := by decide +kernel
theorem dX6_add_158 : decode cX6_add 158 = .ok (.iload 7, 2) := by decide +kernel
theorem dX6_add_160 : decode cX6_add 160 = .ok (.iadd, 1) := by decide +kernel
theorem dX6_add_161 : decode cX6_add 161 = .ok (.aload_n 0, 1) := by decide +kernel
theorem dX6_add_162 : decode cX6_add 162 = .ok (.getfield 17, 3) := by decide +kernel
theorem dX6_add_165 : decode cX6_add 165 = .ok (.iload_n 2, 1) := by decide +kernel
theorem dX6_add_166 : decode cX6_add 166 = .ok (.aaload, 1) := by decide +kernel
theorem dX6_add_167 : decode cX6_add 167 = .ok (.iload_n 3, 1) := by decide +kernel
theorem dX6_add_168 : decode cX6_add 168 = .ok (.iload 7, 2) := by decide +kernel
theorem dX6_add_170 : decode cX6_add 170 = .ok (.iadd, 1) := by decide +kernel
theorem dX6_add_171 : decode cX6_add 171 = .ok (.invokevirtual 238, 3) := by decide +kernel
theorem dX6_add_174 : decode cX6_add 174 = .ok (.iload 8, 2) := by decide +kernel
theorem dX6_add_176 : decode cX6_add 176 = .ok (.iadd, 1) := by decide +kernel
theorem dX6_add_177 : decode cX6_add 177 = .ok (.invokevirtual 237, 3) := by decide +kernel
theorem dX6_add_180 : decode cX6_add 180 = .ok (.iinc 7 1, 3) := by decide +kernel
theorem dX6_add_183 : decode cX6_add 183 = .ok (.goto (-58), 3) := by decide +kernel
theorem dX6_add_186 : decode cX6_add 186 = .ok (.iload 6, 2) := by decide +kernel
theorem dX6_add_188 : decode cX6_add 188 = .ok (.ireturn, 1) := by decide +kernel
set_option maxRecDepth 20000 in
theorem ggX6_count_X6_rowsThatAre : GoodIn wsX6_count wsX6_rowsThatAre := goodIn_r _ [9, 10, 11, 12, 13, 14, 15, 16, 17, 18, 19, 20, 21, 22, 23, 24, 33, 34] (by decide +kernel) (by decide +kernel)
set_option maxRecDepth 20000 in
theorem gX6_count_X6_rowsThatAre : GoodIn wsX6_count (wsV RX6 256 RX6 yX6_rowsThatAre wsX6_rowsThatAre) := goodIn_app (goodIn_of _ (by decide +kernel)) ggX6_count_X6_rowsThatAre
theorem dX6_count_0 : decode cX6_count 0 = .ok (.iload_n 1, 1) := by decide +kernel
theorem dX6_count_1 : decode cX6_count 1 = .ok (.tableswitch 66 0 4 #[35, 40, 48, 53, 58], 35) := by decide +kernel
theorem dX6_count_36 : decode cX6_count 36 = .ok (.aload_n 0, 1) := by decide +kernel
theorem dX6_count_37 : decode cX6_count 37 = .ok (.invokevirtual 256, 3) := by decide +kernel
theorem dX6_count_40 : decode cX6_count 40 = .ok (.ireturn, 1) := by decide +kernel
theorem dX6_count_41 : decode cX6_count 41 = .ok (.aload_n 0, 1) := by decide +kernel
theorem dX6_count_42 : decode cX6_count 42 = .ok (.getfield 45, 3) := by decide +kernel
theorem dX6_count_45 : decode cX6_count 45 = .ok (.getfield 211, 3) := by decide +kernel
theorem dX6_count_48 : decode cX6_count 48 = .ok (.ireturn, 1) := by decide +kernel
theorem dX6_count_49 : decode cX6_count 49 = .ok (.aload_n 0, 1) := by decide +kernel
theorem dX6_count_50 : decode cX6_count 50 = .ok (.getfield 49, 3) := by decide +kernel
theorem dX6_count_53 : decode cX6_count 53 = .ok (.ireturn, 1) := by decide +kernel
theorem dX6_count_54 : decode cX6_count 54 = .ok (.aload_n 0, 1) := by decide +kernel
theorem dX6_count_55 : decode cX6_count 55 = .ok (.getfield 53, 3) := by decide +kernel
theorem dX6_count_58 : decode cX6_count 58 = .ok (.ireturn, 1) := by decide +kernel
theorem dX6_count_59 : decode cX6_count 59 = .ok (.aload_n 0, 1) := by decide +kernel
theorem dX6_count_60 : decode cX6_count 60 = .ok (.getfield 38, 3) := by decide +kernel
theorem dX6_count_63 : decode cX6_count 63 = .ok (.getfield 181, 3) := by decide +kernel
theorem dX6_count_66 : decode cX6_count 66 = .ok (.ireturn, 1) := by decide +kernel
theorem dX6_count_67 : decode cX6_count 67 = .ok (.bipush (-2), 2) := by decide +kernel
theorem dX6_count_69 : decode cX6_count 69 = .ok (.ireturn, 1) := by decide +kernel
set_option maxRecDepth 20000 in
theorem ggX6_digest_X6_rowsThatAre : GoodIn wsX6_digest wsX6_rowsThatAre := goodIn_r _ [10, 5, 11, 12, 13, 14, 15, 16, 38, 39, 40, 41, 42, 43, 44, 45, 54, 55] (by decide +kernel) (by decide +kernel)
set_option maxRecDepth 20000 in
theorem gX6_digest_X6_rowsThatAre : GoodIn wsX6_digest (wsV RX6 256 RX6 yX6_rowsThatAre wsX6_rowsThatAre) := goodIn_app (goodIn_of _ (by decide +kernel)) ggX6_digest_X6_rowsThatAre
set_option maxRecDepth 20000 in
theorem ggX6_digest_X6_mixed : GoodIn wsX6_digest wsX6_mixed := goodIn_r _ [19, 20] (by decide +kernel) (by decide +kernel)
set_option maxRecDepth 20000 in
theorem gX6_digest_X6_mixed : GoodIn wsX6_digest (va_wsS RX6 262 yX6_mixed wsX6_mixed) := goodIn_app (goodIn_of _ (by decide +kernel)) ggX6_digest_X6_mixed
set_option maxRecDepth 20000 in
theorem ggX6_digest_X3_isNone : GoodIn wsX6_digest wsX3_isNone := goodIn_r _ [15, 16, 54, 55] (by decide +kernel) (by decide +kernel)
set_option maxRecDepth 20000 in
theorem gX6_digest_X3_isNone : GoodIn wsX6_digest (wsV RX6 116 RX3 yX3_isNone wsX3_isNone) := goodIn_app (goodIn_of _ (by decide +kernel)) ggX6_digest_X3_isNone
set_option maxRecDepth 20000 in
theorem ggX6_digest_X3_mixedInto : GoodIn wsX6_digest wsX3_mixedInto := goodIn_r _ [24, 16, 25, 18, 9, 19, 20, 54, 55] (by decide +kernel) (by decide +kernel)
set_option maxRecDepth 20000 in
theorem gX6_digest_X3_mixedInto : GoodIn wsX6_digest (wsV RX6 266 RX3 yX3_mixedInto wsX3_mixedInto) := goodIn_app (goodIn_of _ (by decide +kernel)) ggX6_digest_X3_mixedInto
set_option maxRecDepth 20000 in
theorem ggX6_digest_X0_leastFitting : GoodIn wsX6_digest wsX0_leastFitting := goodIn_r _ [30, 31, 32, 33, 34, 35, 29, 36, 37, 46, 47, 48] (by decide +kernel) (by decide +kernel)
set_option maxRecDepth 20000 in
theorem gX6_digest_X0_leastFitting : GoodIn wsX6_digest (wsV RX6 215 RX0 yX0_leastFitting wsX0_leastFitting) := goodIn_app (goodIn_of _ (by decide +kernel)) ggX6_digest_X0_leastFitting
theorem dX6_digest_0 : decode cX6_digest 0 = .ok (.ldc2_w 260, 3) := by decide +kernel
theorem dX6_digest_3 : decode cX6_digest 3 = .ok (.lstore_n 1, 1) := by decide +kernel
theorem dX6_digest_4 : decode cX6_digest 4 = .ok (.lload_n 1, 1) := by decide +kernel
theorem dX6_digest_5 : decode cX6_digest 5 = .ok (.aload_n 0, 1) := by decide +kernel
theorem dX6_digest_6 : decode cX6_digest 6 = .ok (.invokevirtual 256, 3) := by decide +kernel
theorem dX6_digest_9 : decode cX6_digest 9 = .ok (.i2l, 1) := by decide +kernel
theorem dX6_digest_10 : decode cX6_digest 10 = .ok (.invokestatic 262, 3) := by decide +kernel
theorem dX6_digest_13 : decode cX6_digest 13 = .ok (.lstore_n 1, 1) := by decide +kernel
theorem dX6_digest_14 : decode cX6_digest 14 = .ok (.lload_n 1, 1) := by decide +kernel
theorem dX6_digest_15 : decode cX6_digest 15 = .ok (.aload_n 0, 1) := by decide +kernel
theorem dX6_digest_16 : decode cX6_digest 16 = .ok (.getfield 45, 3) := by decide +kernel
theorem dX6_digest_19 : decode cX6_digest 19 = .ok (.getfield 211, 3) := by decide +kernel
theorem dX6_digest_22 : decode cX6_digest 22 = .ok (.i2l, 1) := by decide +kernel
theorem dX6_digest_23 : decode cX6_digest 23 = .ok (.invokestatic 262, 3) := by decide +kernel
theorem dX6_digest_26 : decode cX6_digest 26 = .ok (.lstore_n 1, 1) := by decide +kernel
theorem dX6_digest_27 : decode cX6_digest 27 = .ok (.lload_n 1, 1) := by decide +kernel
theorem dX6_digest_28 : decode cX6_digest 28 = .ok (.aload_n 0, 1) := by decide +kernel
theorem dX6_digest_29 : decode cX6_digest 29 = .ok (.getfield 49, 3) := by decide +kernel
theorem dX6_digest_32 : decode cX6_digest 32 = .ok (.i2l, 1) := by decide +kernel
theorem dX6_digest_33 : decode cX6_digest 33 = .ok (.invokestatic 262, 3) := by decide +kernel
theorem dX6_digest_36 : decode cX6_digest 36 = .ok (.lstore_n 1, 1) := by decide +kernel
theorem dX6_digest_37 : decode cX6_digest 37 = .ok (.lload_n 1, 1) := by decide +kernel
theorem dX6_digest_38 : decode cX6_digest 38 = .ok (.aload_n 0, 1) := by decide +kernel
theorem dX6_digest_39 : decode cX6_digest 39 = .ok (.getfield 38, 3) := by decide +kernel
theorem dX6_digest_42 : decode cX6_digest 42 = .ok (.getfield 181, 3) := by decide +kernel
theorem dX6_digest_45 : decode cX6_digest 45 = .ok (.i2l, 1) := by decide +kernel
theorem dX6_digest_46 : decode cX6_digest 46 = .ok (.invokestatic 262, 3) := by decide +kernel
theorem dX6_digest_49 : decode cX6_digest 49 = .ok (.lstore_n 1, 1) := by decide +kernel
theorem dX6_digest_50 : decode cX6_digest 50 = .ok (.iconst 0, 1) := by decide +kernel
theorem dX6_digest_51 : decode cX6_digest 51 = .ok (.istore_n 3, 1) := by decide +kernel
theorem dX6_digest_52 : decode cX6_digest 52 = .ok (.iload_n 3, 1) := by decide +kernel
theorem dX6_digest_53 : decode cX6_digest 53 = .ok (.bipush 8, 2) := by decide +kernel
theorem dX6_digest_55 : decode cX6_digest 55 = .ok (.if_icmp .ge 37, 3) := by decide +kernel
theorem dX6_digest_58 : decode cX6_digest 58 = .ok (.aload_n 0, 1) := by decide +kernel
theorem dX6_digest_59 : decode cX6_digest 59 = .ok (.getfield 11, 3) := by decide +kernel
theorem dX6_digest_62 : decode cX6_digest 62 = .ok (.iload_n 3, 1) := by decide +kernel
theorem dX6_digest_63 : decode cX6_digest 63 = .ok (.aaload, 1) := by decide +kernel
theorem dX6_digest_64 : decode cX6_digest 64 = .ok (.invokevirtual 116, 3) := by decide +kernel
theorem dX6_digest_67 : decode cX6_digest 67 = .ok (.ifCond .ne 19, 3) := by decide +kernel
theorem dX6_digest_70 : decode cX6_digest 70 = .ok (.aload_n 0, 1) := by decide +kernel
theorem dX6_digest_71 : decode cX6_digest 71 = .ok (.getfield 11, 3) := by decide +kernel
theorem dX6_digest_74 : decode cX6_digest 74 = .ok (.iload_n 3, 1) := by decide +kernel
theorem dX6_digest_75 : decode cX6_digest 75 = .ok (.aaload, 1) := by decide +kernel
theorem dX6_digest_76 : decode cX6_digest 76 = .ok (.lload_n 1, 1) := by decide +kernel
theorem dX6_digest_77 : decode cX6_digest 77 = .ok (.iload_n 3, 1) := by decide +kernel
theorem dX6_digest_78 : decode cX6_digest 78 = .ok (.i2l, 1) := by decide +kernel
theorem dX6_digest_79 : decode cX6_digest 79 = .ok (.invokestatic 262, 3) := by decide +kernel
theorem dX6_digest_82 : decode cX6_digest 82 = .ok (.invokevirtual 266, 3) := by decide +kernel
theorem dX6_digest_85 : decode cX6_digest 85 = .ok (.lstore_n 1, 1) := by decide +kernel
theorem dX6_digest_86 : decode cX6_digest 86 = .ok (.iinc 3 1, 3) := by decide +kernel
theorem dX6_digest_89 : decode cX6_digest 89 = .ok (.goto (-37), 3) := by decide +kernel
theorem dX6_digest_92 : decode cX6_digest 92 = .ok (.lload_n 1, 1) := by decide +kernel
theorem dX6_digest_93 : decode cX6_digest 93 = .ok (.aload_n 0, 1) := by decide +kernel
theorem dX6_digest_94 : decode cX6_digest 94 = .ok (.getfield 45, 3) := by decide +kernel
theorem dX6_digest_97 : decode cX6_digest 97 = .ok (.invokevirtual 215, 3) := by decide +kernel
theorem dX6_digest_100 : decode cX6_digest 100 = .ok (.invokestatic 262, 3) := by decide +kernel
theorem dX6_digest_103 : decode cX6_digest 103 = .ok (.lstore_n 1, 1) := by decide +kernel
theorem dX6_digest_104 : decode cX6_digest 104 = .ok (.lload_n 1, 1) := by decide +kernel
theorem dX6_digest_105 : decode cX6_digest 105 = .ok (.aload_n 0, 1) := by decide +kernel
theorem dX6_digest_106 : decode cX6_digest 106 = .ok (.getfield 38, 3) := by decide +kernel
theorem dX6_digest_109 : decode cX6_digest 109 = .ok (.getfield 191, 3) := by decide +kernel
theorem dX6_digest_112 : decode cX6_digest 112 = .ok (.invokestatic 262, 3) := by decide +kernel
theorem dX6_digest_115 : decode cX6_digest 115 = .ok (.lreturn, 1) := by decide +kernel
theorem dX6_isRow_0 : decode cX6_isRow 0 = .ok (.iload_n 0, 1) := by decide +kernel
theorem dX6_isRow_1 : decode cX6_isRow 1 = .ok (.ifCond .lt 13, 3) := by decide +kernel
theorem dX6_isRow_4 : decode cX6_isRow 4 = .ok (.iload_n 0, 1) := by decide +kernel
theorem dX6_isRow_5 : decode cX6_isRow 5 = .ok (.bipush 8, 2) := by decide +kernel
theorem dX6_isRow_7 : decode cX6_isRow 7 = .ok (.if_icmp .ge 7, 3) := by decide +kernel
theorem dX6_isRow_10 : decode cX6_isRow 10 = .ok (.iconst 1, 1) := by decide +kernel
theorem dX6_isRow_11 : decode cX6_isRow 11 = .ok (.goto 4, 3) := by decide +kernel
theorem dX6_isRow_14 : decode cX6_isRow 14 = .ok (.iconst 0, 1) := by decide +kernel
theorem dX6_isRow_15 : decode cX6_isRow 15 = .ok (.ireturn, 1) := by decide +kernel
theorem dX6_isReel_0 : decode cX6_isReel 0 = .ok (.iload_n 0, 1) := by decide +kernel
theorem dX6_isReel_1 : decode cX6_isReel 1 = .ok (.ifCond .lt 12, 3) := by decide +kernel
theorem dX6_isReel_4 : decode cX6_isReel 4 = .ok (.iload_n 0, 1) := by decide +kernel
theorem dX6_isReel_5 : decode cX6_isReel 5 = .ok (.iconst 4, 1) := by decide +kernel
theorem dX6_isReel_6 : decode cX6_isReel 6 = .ok (.if_icmp .ge 7, 3) := by decide +kernel
theorem dX6_isReel_9 : decode cX6_isReel 9 = .ok (.iconst 1, 1) := by decide +kernel
theorem dX6_isReel_10 : decode cX6_isReel 10 = .ok (.goto 4, 3) := by decide +kernel
theorem dX6_isReel_13 : decode cX6_isReel 13 = .ok (.iconst 0, 1) := by decide +kernel
theorem dX6_isReel_14 : decode cX6_isReel 14 = .ok (.ireturn, 1) := by decide +kernel
theorem dX6_isForm_0 : decode cX6_isForm 0 = .ok (.iload_n 0, 1) := by decide +kernel
theorem dX6_isForm_1 : decode cX6_isForm 1 = .ok (.ifCond .lt 12, 3) := by decide +kernel
theorem dX6_isForm_4 : decode cX6_isForm 4 = .ok (.iload_n 0, 1) := by decide +kernel
theorem dX6_isForm_5 : decode cX6_isForm 5 = .ok (.iconst 3, 1) := by decide +kernel
theorem dX6_isForm_6 : decode cX6_isForm 6 = .ok (.if_icmp .ge 7, 3) := by decide +kernel
theorem dX6_isForm_9 : decode cX6_isForm 9 = .ok (.iconst 1, 1) := by decide +kernel
theorem dX6_isForm_10 : decode cX6_isForm 10 = .ok (.goto 4, 3) := by decide +kernel
theorem dX6_isForm_13 : decode cX6_isForm 13 = .ok (.iconst 0, 1) := by decide +kernel
theorem dX6_isForm_14 : decode cX6_isForm 14 = .ok (.ireturn, 1) := by decide +kernel
theorem dX6_isShift_0 : decode cX6_isShift 0 = .ok (.iload_n 0, 1) := by decide +kernel
theorem dX6_isShift_1 : decode cX6_isShift 1 = .ok (.ifCond .lt 13, 3) := by decide +kernel
theorem dX6_isShift_4 : decode cX6_isShift 4 = .ok (.iload_n 0, 1) := by decide +kernel
theorem dX6_isShift_5 : decode cX6_isShift 5 = .ok (.bipush 127, 2) := by decide +kernel
theorem dX6_isShift_7 : decode cX6_isShift 7 = .ok (.if_icmp .ge 7, 3) := by decide +kernel
theorem dX6_isShift_10 : decode cX6_isShift 10 = .ok (.iconst 1, 1) := by decide +kernel
theorem dX6_isShift_11 : decode cX6_isShift 11 = .ok (.goto 4, 3) := by decide +kernel
theorem dX6_isShift_14 : decode cX6_isShift 14 = .ok (.iconst 0, 1) := by decide +kernel
theorem dX6_isShift_15 : decode cX6_isShift 15 = .ok (.ireturn, 1) := by decide +kernel
theorem dX6_isSize_0 : decode cX6_isSize 0 = .ok (.iload_n 0, 1) := by decide +kernel
theorem dX6_isSize_1 : decode cX6_isSize 1 = .ok (.iconst 1, 1) := by decide +kernel
theorem dX6_isSize_2 : decode cX6_isSize 2 = .ok (.if_icmp .lt 13, 3) := by decide +kernel
theorem dX6_isSize_5 : decode cX6_isSize 5 = .ok (.iload_n 0, 1) := by decide +kernel
theorem dX6_isSize_6 : decode cX6_isSize 6 = .ok (.bipush 127, 2) := by decide +kernel
theorem dX6_isSize_8 : decode cX6_isSize 8 = .ok (.if_icmp .gt 7, 3) := by decide +kernel
theorem dX6_isSize_11 : decode cX6_isSize 11 = .ok (.iconst 1, 1) := by decide +kernel
theorem dX6_isSize_12 : decode cX6_isSize 12 = .ok (.goto 4, 3) := by decide +kernel
theorem dX6_isSize_15 : decode cX6_isSize 15 = .ok (.iconst 0, 1) := by decide +kernel
theorem dX6_isSize_16 : decode cX6_isSize 16 = .ok (.ireturn, 1) := by decide +kernel
theorem dX6_isPlace_0 : decode cX6_isPlace 0 = .ok (.iload_n 0, 1) := by decide +kernel
theorem dX6_isPlace_1 : decode cX6_isPlace 1 = .ok (.ifCond .lt 14, 3) := by decide +kernel
theorem dX6_isPlace_4 : decode cX6_isPlace 4 = .ok (.iload_n 0, 1) := by decide +kernel
theorem dX6_isPlace_5 : decode cX6_isPlace 5 = .ok (.sipush 300, 3) := by decide +kernel
theorem dX6_isPlace_8 : decode cX6_isPlace 8 = .ok (.if_icmp .gt 7, 3) := by decide +kernel
theorem dX6_isPlace_11 : decode cX6_isPlace 11 = .ok (.iconst 1, 1) := by decide +kernel
theorem dX6_isPlace_12 : decode cX6_isPlace 12 = .ok (.goto 4, 3) := by decide +kernel
theorem dX6_isPlace_15 : decode cX6_isPlace 15 = .ok (.iconst 0, 1) := by decide +kernel
theorem dX6_isPlace_16 : decode cX6_isPlace 16 = .ok (.ireturn, 1) := by decide +kernel
theorem dX6_isBits_0 : decode cX6_isBits 0 = .ok (.iload_n 0, 1) := by decide +kernel
theorem dX6_isBits_1 : decode cX6_isBits 1 = .ok (.iconst 2, 1) := by decide +kernel
theorem dX6_isBits_2 : decode cX6_isBits 2 = .ok (.if_icmp .lt 13, 3) := by decide +kernel
theorem dX6_isBits_5 : decode cX6_isBits 5 = .ok (.iload_n 0, 1) := by decide +kernel
theorem dX6_isBits_6 : decode cX6_isBits 6 = .ok (.bipush 7, 2) := by decide +kernel
theorem dX6_isBits_8 : decode cX6_isBits 8 = .ok (.if_icmp .gt 7, 3) := by decide +kernel
theorem dX6_isBits_11 : decode cX6_isBits 11 = .ok (.iconst 1, 1) := by decide +kernel
theorem dX6_isBits_12 : decode cX6_isBits 12 = .ok (.goto 4, 3) := by decide +kernel
theorem dX6_isBits_15 : decode cX6_isBits 15 = .ok (.iconst 0, 1) := by decide +kernel
theorem dX6_isBits_16 : decode cX6_isBits 16 = .ok (.ireturn, 1) := by decide +kernel
set_option maxRecDepth 20000 in
theorem ggX6_isRegister_X6_isBits : GoodIn wsX6_isRegister wsX6_isBits := goodIn_r _ [4] (by decide +kernel) (by decide +kernel)
set_option maxRecDepth 20000 in
theorem gX6_isRegister_X6_isBits : GoodIn wsX6_isRegister (va_wsS RX6 77 yX6_isBits wsX6_isBits) := goodIn_app (goodIn_of _ (by decide +kernel)) ggX6_isRegister_X6_isBits
theorem dX6_isRegister_0 : decode cX6_isRegister 0 = .ok (.iload_n 0, 1) := by decide +kernel
theorem dX6_isRegister_1 : decode cX6_isRegister 1 = .ok (.invokestatic 77, 3) := by decide +kernel
theorem dX6_isRegister_4 : decode cX6_isRegister 4 = .ok (.ifCond .ne 5, 3) := by decide +kernel
theorem dX6_isRegister_7 : decode cX6_isRegister 7 = .ok (.iconst 0, 1) := by decide +kernel
theorem dX6_isRegister_8 : decode cX6_isRegister 8 = .ok (.ireturn, 1) := by decide +kernel
theorem dX6_isRegister_9 : decode cX6_isRegister 9 = .ok (.iconst 1, 1) := by decide +kernel
theorem dX6_isRegister_10 : decode cX6_isRegister 10 = .ok (.iload_n 0, 1) := by decide +kernel
theorem dX6_isRegister_11 : decode cX6_isRegister 11 = .ok (.ishl, 1) := by decide +kernel
theorem dX6_isRegister_12 : decode cX6_isRegister 12 = .ok (.istore_n 3, 1) := by decide +kernel
theorem dX6_isRegister_13 : decode cX6_isRegister 13 = .ok (.iload_n 1, 1) := by decide +kernel
theorem dX6_isRegister_14 : decode cX6_isRegister 14 = .ok (.ifCond .le 28, 3) := by decide +kernel
theorem dX6_isRegister_17 : decode cX6_isRegister 17 = .ok (.iload_n 1, 1) := by decide +kernel
theorem dX6_isRegister_18 : decode cX6_isRegister 18 = .ok (.iload_n 3, 1) := by decide +kernel
theorem dX6_isRegister_19 : decode cX6_isRegister 19 = .ok (.if_icmp .ge 23, 3) := by decide +kernel
theorem dX6_isRegister_22 : decode cX6_isRegister 22 = .ok (.iload_n 1, 1) := by decide +kernel
theorem dX6_isRegister_23 : decode cX6_isRegister 23 = .ok (.iconst 1, 1) := by decide +kernel
theorem dX6_isRegister_24 : decode cX6_isRegister 24 = .ok (.iand, 1) := by decide +kernel
theorem dX6_isRegister_25 : decode cX6_isRegister 25 = .ok (.iconst 1, 1) := by decide +kernel
theorem dX6_isRegister_26 : decode cX6_isRegister 26 = .ok (.if_icmp .ne 16, 3) := by decide +kernel
theorem dX6_isRegister_29 : decode cX6_isRegister 29 = .ok (.iload_n 2, 1) := by decide +kernel
theorem dX6_isRegister_30 : decode cX6_isRegister 30 = .ok (.ifCond .le 12, 3) := by decide +kernel
theorem dX6_isRegister_33 : decode cX6_isRegister 33 = .ok (.iload_n 2, 1) := by decide +kernel
theorem dX6_isRegister_34 : decode cX6_isRegister 34 = .ok (.iload_n 3, 1) := by decide +kernel
theorem dX6_isRegister_35 : decode cX6_isRegister 35 = .ok (.if_icmp .ge 7, 3) := by decide +kernel
theorem dX6_isRegister_38 : decode cX6_isRegister 38 = .ok (.iconst 1, 1) := by decide +kernel
theorem dX6_isRegister_39 : decode cX6_isRegister 39 = .ok (.goto 4, 3) := by decide +kernel
theorem dX6_isRegister_42 : decode cX6_isRegister 42 = .ok (.iconst 0, 1) := by decide +kernel
theorem dX6_isRegister_43 : decode cX6_isRegister 43 = .ok (.ireturn, 1) := by decide +kernel
theorem dX6_areHops_0 : decode cX6_areHops 0 = .ok (.iconst 0, 1) := by decide +kernel
theorem dX6_areHops_1 : decode cX6_areHops 1 = .ok (.istore_n 3, 1) := by decide +kernel
theorem dX6_areHops_2 : decode cX6_areHops 2 = .ok (.getstatic 270, 3) := by decide +kernel
theorem dX6_areHops_5 : decode cX6_areHops 5 = .ok (.astore 4, 2) := by decide +kernel
theorem dX6_areHops_7 : decode cX6_areHops 7 = .ok (.aload 4, 2) := by decide +kernel
theorem dX6_areHops_9 : decode cX6_areHops 9 = .ok (.arraylength, 1) := by decide +kernel
theorem dX6_areHops_10 : decode cX6_areHops 10 = .ok (.istore 5, 2) := by decide +kernel
theorem dX6_areHops_12 : decode cX6_areHops 12 = .ok (.iconst 0, 1) := by decide +kernel
theorem dX6_areHops_13 : decode cX6_areHops 13 = .ok (.istore 6, 2) := by decide +kernel
theorem dX6_areHops_15 : decode cX6_areHops 15 = .ok (.iload 6, 2) := by decide +kernel
theorem dX6_areHops_17 : decode cX6_areHops 17 = .ok (.iload 5, 2) := by decide +kernel
theorem dX6_areHops_19 : decode cX6_areHops 19 = .ok (.if_icmp .ge 32, 3) := by decide +kernel
theorem dX6_areHops_22 : decode cX6_areHops 22 = .ok (.aload 4, 2) := by decide +kernel
theorem dX6_areHops_24 : decode cX6_areHops 24 = .ok (.iload 6, 2) := by decide +kernel
theorem dX6_areHops_26 : decode cX6_areHops 26 = .ok (.iaload, 1) := by decide +kernel
theorem dX6_areHops_27 : decode cX6_areHops 27 = .ok (.istore 7, 2) := by decide +kernel
theorem dX6_areHops_29 : decode cX6_areHops 29 = .ok (.iload_n 3, 1) := by decide +kernel
theorem dX6_areHops_30 : decode cX6_areHops 30 = .ok (.ifCond .ne 9, 3) := by decide +kernel
theorem dX6_areHops_33 : decode cX6_areHops 33 = .ok (.iload 7, 2) := by decide +kernel
theorem dX6_areHops_35 : decode cX6_areHops 35 = .ok (.iload_n 0, 1) := by decide +kernel
theorem dX6_areHops_36 : decode cX6_areHops 36 = .ok (.if_icmp .ne 7, 3) := by decide +kernel
theorem dX6_areHops_39 : decode cX6_areHops 39 = .ok (.iconst 1, 1) := by decide +kernel
theorem dX6_areHops_40 : decode cX6_areHops 40 = .ok (.goto 4, 3) := by decide +kernel
theorem dX6_areHops_43 : decode cX6_areHops 43 = .ok (.iconst 0, 1) := by decide +kernel
theorem dX6_areHops_44 : decode cX6_areHops 44 = .ok (.istore_n 3, 1) := by decide +kernel
theorem dX6_areHops_45 : decode cX6_areHops 45 = .ok (.iinc 6 1, 3) := by decide +kernel
theorem dX6_areHops_48 : decode cX6_areHops 48 = .ok (.goto (-33), 3) := by decide +kernel
theorem dX6_areHops_51 : decode cX6_areHops 51 = .ok (.iload_n 3, 1) := by decide +kernel
theorem dX6_areHops_52 : decode cX6_areHops 52 = .ok (.ifCond .eq 25, 3) := by decide +kernel
theorem dX6_areHops_55 : decode cX6_areHops 55 = .ok (.iload_n 1, 1) := by decide +kernel
theorem dX6_areHops_56 : decode cX6_areHops 56 = .ok (.ifCond .le 21, 3) := by decide +kernel
theorem dX6_areHops_59 : decode cX6_areHops 59 = .ok (.iload_n 1, 1) := by decide +kernel
theorem dX6_areHops_60 : decode cX6_areHops 60 = .ok (.iload_n 0, 1) := by decide +kernel
theorem dX6_areHops_61 : decode cX6_areHops 61 = .ok (.if_icmp .ge 16, 3) := by decide +kernel
theorem dX6_areHops_64 : decode cX6_areHops 64 = .ok (.iload_n 2, 1) := by decide +kernel
theorem dX6_areHops_65 : decode cX6_areHops 65 = .ok (.ifCond .le 12, 3) := by decide +kernel
theorem dX6_areHops_68 : decode cX6_areHops 68 = .ok (.iload_n 2, 1) := by decide +kernel
theorem dX6_areHops_69 : decode cX6_areHops 69 = .ok (.iload_n 0, 1) := by decide +kernel
theorem dX6_areHops_70 : decode cX6_areHops 70 = .ok (.if_icmp .ge 7, 3) := by decide +kernel
theorem dX6_areHops_73 : decode cX6_areHops 73 = .ok (.iconst 1, 1) := by decide +kernel
theorem dX6_areHops_74 : decode cX6_areHops 74 = .ok (.goto 4, 3) := by decide +kernel
theorem dX6_areHops_77 : decode cX6_areHops 77 = .ok (.iconst 0, 1) := by decide +kernel
theorem dX6_areHops_78 : decode cX6_areHops 78 = .ok (.ireturn, 1) := by decide +kernel
set_option maxRecDepth 20000 in
theorem ggX6_arePaired_X3_isNone : GoodIn wsX6_arePaired wsX3_isNone := goodIn_r _ [6, 7, 16, 17] (by decide +kernel) (by decide +kernel)
set_option maxRecDepth 20000 in
theorem gX6_arePaired_X3_isNone : GoodIn wsX6_arePaired (wsV RX6 116 RX3 yX3_isNone wsX3_isNone) := goodIn_app (goodIn_of _ (by decide +kernel)) ggX6_arePaired_X3_isNone
theorem dX6_arePaired_0 : decode cX6_arePaired 0 = .ok (.aload_n 0, 1) := by decide +kernel
theorem dX6_arePaired_1 : decode cX6_arePaired 1 = .ok (.getfield 11, 3) := by decide +kernel
theorem dX6_arePaired_4 : decode cX6_arePaired 4 = .ok (.iload_n 1, 1) := by decide +kernel
theorem dX6_arePaired_5 : decode cX6_arePaired 5 = .ok (.aaload, 1) := by decide +kernel
theorem dX6_arePaired_6 : decode cX6_arePaired 6 = .ok (.invokevirtual 116, 3) := by decide +kernel
theorem dX6_arePaired_9 : decode cX6_arePaired 9 = .ok (.ifCond .ne 28, 3) := by decide +kernel
theorem dX6_arePaired_12 : decode cX6_arePaired 12 = .ok (.aload_n 0, 1) := by decide +kernel
theorem dX6_arePaired_13 : decode cX6_arePaired 13 = .ok (.getfield 11, 3) := by decide +kernel
theorem dX6_arePaired_16 : decode cX6_arePaired 16 = .ok (.iload_n 1, 1) := by decide +kernel
theorem dX6_arePaired_17 : decode cX6_arePaired 17 = .ok (.aaload, 1) := by decide +kernel
theorem dX6_arePaired_18 : decode cX6_arePaired 18 = .ok (.getfield 70, 3) := by decide +kernel
theorem dX6_arePaired_21 : decode cX6_arePaired 21 = .ok (.aload_n 0, 1) := by decide +kernel
theorem dX6_arePaired_22 : decode cX6_arePaired 22 = .ok (.getfield 11, 3) := by decide +kernel
theorem dX6_arePaired_25 : decode cX6_arePaired 25 = .ok (.iload_n 2, 1) := by decide +kernel
theorem dX6_arePaired_26 : decode cX6_arePaired 26 = .ok (.aaload, 1) := by decide +kernel
theorem dX6_arePaired_27 : decode cX6_arePaired 27 = .ok (.getfield 70, 3) := by decide +kernel
theorem dX6_arePaired_30 : decode cX6_arePaired 30 = .ok (.if_icmp .ne 7, 3) := by decide +kernel
theorem dX6_arePaired_33 : decode cX6_arePaired 33 = .ok (.iconst 1, 1) := by decide +kernel
theorem dX6_arePaired_34 : decode cX6_arePaired 34 = .ok (.goto 4, 3) := by decide +kernel
theorem dX6_arePaired_37 : decode cX6_arePaired 37 = .ok (.iconst 0, 1) := by decide +kernel
theorem dX6_arePaired_38 : decode cX6_arePaired 38 = .ok (.ireturn, 1) := by decide +kernel
theorem dX6_isSizeOfAnyRow_0 : decode cX6_isSizeOfAnyRow 0 = .ok (.iconst 0, 1) := by decide +kernel
theorem dX6_isSizeOfAnyRow_1 : decode cX6_isSizeOfAnyRow 1 = .ok (.istore_n 2, 1) := by decide +kernel
theorem dX6_isSizeOfAnyRow_2 : decode cX6_isSizeOfAnyRow 2 = .ok (.iload_n 2, 1) := by decide +kernel
theorem dX6_isSizeOfAnyRow_3 : decode cX6_isSizeOfAnyRow 3 = .ok (.bipush 8, 2) := by decide +kernel
theorem dX6_isSizeOfAnyRow_5 : decode cX6_isSizeOfAnyRow 5 = .ok (.if_icmp .ge 24, 3) := by decide +kernel
theorem dX6_isSizeOfAnyRow_8 : decode cX6_isSizeOfAnyRow 8 = .ok (.aload_n 0, 1) := by decide +kernel
theorem dX6_isSizeOfAnyRow_9 : decode cX6_isSizeOfAnyRow 9 = .ok (.getfield 11, 3) := by decide +kernel
theorem dX6_isSizeOfAnyRow_12 : decode cX6_isSizeOfAnyRow 12 = .ok (.iload_n 2, 1) := by decide +kernel
theorem dX6_isSizeOfAnyRow_13 : decode cX6_isSizeOfAnyRow 13 = .ok (.aaload, 1) := by decide +kernel
theorem dX6_isSizeOfAnyRow_14 : decode cX6_isSizeOfAnyRow 14 = .ok (.getfield 70, 3) := by decide +kernel
theorem dX6_isSizeOfAnyRow_17 : decode cX6_isSizeOfAnyRow 17 = .ok (.iload_n 1, 1) := by decide +kernel
theorem dX6_isSizeOfAnyRow_18 : decode cX6_isSizeOfAnyRow 18 = .ok (.if_icmp .ne 5, 3) := by decide +kernel
theorem dX6_isSizeOfAnyRow_21 : decode cX6_isSizeOfAnyRow 21 = .ok (.iconst 1, 1) := by decide +kernel
theorem dX6_isSizeOfAnyRow_22 : decode cX6_isSizeOfAnyRow 22 = .ok (.ireturn, 1) := by decide +kernel
theorem dX6_isSizeOfAnyRow_23 : decode cX6_isSizeOfAnyRow 23 = .ok (.iinc 2 1, 3) := by decide +kernel
theorem dX6_isSizeOfAnyRow_26 : decode cX6_isSizeOfAnyRow 26 = .ok (.goto (-24), 3) := by decide +kernel
theorem dX6_isSizeOfAnyRow_29 : decode cX6_isSizeOfAnyRow 29 = .ok (.iconst 0, 1) := by decide +kernel
theorem dX6_isSizeOfAnyRow_30 : decode cX6_isSizeOfAnyRow 30 = .ok (.ireturn, 1) := by decide +kernel
theorem dX6_found_0 : decode cX6_found 0 = .ok (.aload_n 0, 1) := by decide +kernel
theorem dX6_found_1 : decode cX6_found 1 = .ok (.iload_n 1, 1) := by decide +kernel
theorem dX6_found_2 : decode cX6_found 2 = .ok (.putfield 53, 3) := by decide +kernel
theorem dX6_found_5 : decode cX6_found 5 = .ok (.bipush (-10), 2) := by decide +kernel
theorem dX6_found_7 : decode cX6_found 7 = .ok (.iload_n 1, 1) := by decide +kernel
theorem dX6_found_8 : decode cX6_found 8 = .ok (.isub, 1) := by decide +kernel
theorem dX6_found_9 : decode cX6_found 9 = .ok (.ireturn, 1) := by decide +kernel
set_option maxRecDepth 20000 in
theorem ggX6_stepped_J6_bitCount_0f7a4 : GoodIn wsX6_stepped wsJ6_bitCount_0f7a4 := goodIn_r _ [4, 5, 6, 7] (by decide +kernel) (by decide +kernel)
set_option maxRecDepth 20000 in
theorem gX6_stepped_J6_bitCount_0f7a4 : GoodIn wsX6_stepped (va_wsS RX6 273 yJ6_bitCount_0f7a4 wsJ6_bitCount_0f7a4) := goodIn_app (goodIn_of _ (by decide +kernel)) ggX6_stepped_J6_bitCount_0f7a4
theorem dX6_stepped_0 : decode cX6_stepped 0 = .ok (.iload_n 2, 1) := by decide +kernel
theorem dX6_stepped_1 : decode cX6_stepped 1 = .ok (.iload_n 1, 1) := by decide +kernel
theorem dX6_stepped_2 : decode cX6_stepped 2 = .ok (.iand, 1) := by decide +kernel
theorem dX6_stepped_3 : decode cX6_stepped 3 = .ok (.invokestatic 273, 3) := by decide +kernel
theorem dX6_stepped_6 : decode cX6_stepped 6 = .ok (.iconst 1, 1) := by decide +kernel
theorem dX6_stepped_7 : decode cX6_stepped 7 = .ok (.iand, 1) := by decide +kernel
theorem dX6_stepped_8 : decode cX6_stepped 8 = .ok (.istore_n 3, 1) := by decide +kernel
theorem dX6_stepped_9 : decode cX6_stepped 9 = .ok (.iload_n 2, 1) := by decide +kernel
theorem dX6_stepped_10 : decode cX6_stepped 10 = .ok (.iconst 1, 1) := by decide +kernel
theorem dX6_stepped_11 : decode cX6_stepped 11 = .ok (.ishr, 1) := by decide +kernel
theorem dX6_stepped_12 : decode cX6_stepped 12 = .ok (.iload_n 3, 1) := by decide +kernel
theorem dX6_stepped_13 : decode cX6_stepped 13 = .ok (.iload_n 0, 1) := by decide +kernel
theorem dX6_stepped_14 : decode cX6_stepped 14 = .ok (.iconst 1, 1) := by decide +kernel
theorem dX6_stepped_15 : decode cX6_stepped 15 = .ok (.isub, 1) := by decide +kernel
theorem dX6_stepped_16 : decode cX6_stepped 16 = .ok (.ishl, 1) := by decide +kernel
theorem dX6_stepped_17 : decode cX6_stepped 17 = .ok (.ior, 1) := by decide +kernel
theorem dX6_stepped_18 : decode cX6_stepped 18 = .ok (.ireturn, 1) := by decide +kernel
set_option maxRecDepth 20000 in
theorem ggX6_stepsToReturn_X6_stepped : GoodIn wsX6_stepsToReturn wsX6_stepped := goodIn_r _ [4, 5, 6, 7, 8, 9, 10, 11] (by decide +kernel) (by decide +kernel)
set_option maxRecDepth 20000 in
theorem gX6_stepsToReturn_X6_stepped : GoodIn wsX6_stepsToReturn (va_wsS RX6 276 yX6_stepped wsX6_stepped) := goodIn_app (goodIn_of _ (by decide +kernel)) ggX6_stepsToReturn_X6_stepped
theorem dX6_stepsToReturn_0 : decode cX6_stepsToReturn 0 = .ok (.iload_n 2, 1) := by decide +kernel
theorem dX6_stepsToReturn_1 : decode cX6_stepsToReturn 1 = .ok (.istore_n 3, 1) := by decide +kernel
theorem dX6_stepsToReturn_2 : decode cX6_stepsToReturn 2 = .ok (.iconst 1, 1) := by decide +kernel
theorem dX6_stepsToReturn_3 : decode cX6_stepsToReturn 3 = .ok (.istore 4, 2) := by decide +kernel
theorem dX6_stepsToReturn_5 : decode cX6_stepsToReturn 5 = .ok (.iload 4, 2) := by decide +kernel
theorem dX6_stepsToReturn_7 : decode cX6_stepsToReturn 7 = .ok (.bipush 127, 2) := by decide +kernel
theorem dX6_stepsToReturn_9 : decode cX6_stepsToReturn 9 = .ok (.if_icmp .gt 24, 3) := by decide +kernel
theorem dX6_stepsToReturn_12 : decode cX6_stepsToReturn 12 = .ok (.iload_n 0, 1) := by decide +kernel
theorem dX6_stepsToReturn_13 : decode cX6_stepsToReturn 13 = .ok (.iload_n 1, 1) := by decide +kernel
theorem dX6_stepsToReturn_14 : decode cX6_stepsToReturn 14 = .ok (.iload_n 3, 1) := by decide +kernel
theorem dX6_stepsToReturn_15 : decode cX6_stepsToReturn 15 = .ok (.invokestatic 276, 3) := by decide +kernel
theorem dX6_stepsToReturn_18 : decode cX6_stepsToReturn 18 = .ok (.istore_n 3, 1) := by decide +kernel
theorem dX6_stepsToReturn_19 : decode cX6_stepsToReturn 19 = .ok (.iload_n 3, 1) := by decide +kernel
theorem dX6_stepsToReturn_20 : decode cX6_stepsToReturn 20 = .ok (.iload_n 2, 1) := by decide +kernel
theorem dX6_stepsToReturn_21 : decode cX6_stepsToReturn 21 = .ok (.if_icmp .ne 6, 3) := by decide +kernel
theorem dX6_stepsToReturn_24 : decode cX6_stepsToReturn 24 = .ok (.iload 4, 2) := by decide +kernel
theorem dX6_stepsToReturn_26 : decode cX6_stepsToReturn 26 = .ok (.ireturn, 1) := by decide +kernel
theorem dX6_stepsToReturn_27 : decode cX6_stepsToReturn 27 = .ok (.iinc 4 1, 3) := by decide +kernel
theorem dX6_stepsToReturn_30 : decode cX6_stepsToReturn 30 = .ok (.goto (-25), 3) := by decide +kernel
theorem dX6_stepsToReturn_33 : decode cX6_stepsToReturn 33 = .ok (.bipush 127, 2) := by decide +kernel
theorem dX6_stepsToReturn_35 : decode cX6_stepsToReturn 35 = .ok (.ireturn, 1) := by decide +kernel
theorem dX6_meetings_0 : decode cX6_meetings 0 = .ok (.iconst 0, 1) := by decide +kernel
theorem dX6_meetings_1 : decode cX6_meetings 1 = .ok (.istore 5, 2) := by decide +kernel
theorem dX6_meetings_3 : decode cX6_meetings 3 = .ok (.iconst 0, 1) := by decide +kernel
theorem dX6_meetings_4 : decode cX6_meetings 4 = .ok (.istore 6, 2) := by decide +kernel
theorem dX6_meetings_6 : decode cX6_meetings 6 = .ok (.iload 6, 2) := by decide +kernel
theorem dX6_meetings_8 : decode cX6_meetings 8 = .ok (.iload_n 0, 1) := by decide +kernel
theorem dX6_meetings_9 : decode cX6_meetings 9 = .ok (.if_icmp .ge 32, 3) := by decide +kernel
theorem dX6_meetings_12 : decode cX6_meetings 12 = .ok (.iload_n 1, 1) := by decide +kernel
theorem dX6_meetings_13 : decode cX6_meetings 13 = .ok (.iload 6, 2) := by decide +kernel
theorem dX6_meetings_15 : decode cX6_meetings 15 = .ok (.imul, 1) := by decide +kernel
theorem dX6_meetings_16 : decode cX6_meetings 16 = .ok (.iload_n 0, 1) := by decide +kernel
theorem dX6_meetings_17 : decode cX6_meetings 17 = .ok (.irem, 1) := by decide +kernel
theorem dX6_meetings_18 : decode cX6_meetings 18 = .ok (.iload_n 2, 1) := by decide +kernel
theorem dX6_meetings_19 : decode cX6_meetings 19 = .ok (.iload 6, 2) := by decide +kernel
theorem dX6_meetings_21 : decode cX6_meetings 21 = .ok (.iload_n 3, 1) := by decide +kernel
theorem dX6_meetings_22 : decode cX6_meetings 22 = .ok (.iadd, 1) := by decide +kernel
theorem dX6_meetings_23 : decode cX6_meetings 23 = .ok (.imul, 1) := by decide +kernel
theorem dX6_meetings_24 : decode cX6_meetings 24 = .ok (.iload 4, 2) := by decide +kernel
theorem dX6_meetings_26 : decode cX6_meetings 26 = .ok (.iadd, 1) := by decide +kernel
theorem dX6_meetings_27 : decode cX6_meetings 27 = .ok (.iload_n 0, 1) := by decide +kernel
theorem dX6_meetings_28 : decode cX6_meetings 28 = .ok (.irem, 1) := by decide +kernel
theorem dX6_meetings_29 : decode cX6_meetings 29 = .ok (.if_icmp .ne 6, 3) := by decide +kernel
theorem dX6_meetings_32 : decode cX6_meetings 32 = .ok (.iinc 5 1, 3) := by decide +kernel
theorem dX6_meetings_35 : decode cX6_meetings 35 = .ok (.iinc 6 1, 3) := by decide +kernel
theorem dX6_meetings_38 : decode cX6_meetings 38 = .ok (.goto (-32), 3) := by decide +kernel
theorem dX6_meetings_41 : decode cX6_meetings 41 = .ok (.iload 5, 2) := by decide +kernel
theorem dX6_meetings_43 : decode cX6_meetings 43 = .ok (.ireturn, 1) := by decide +kernel
theorem dX6_mixed_0 : decode cX6_mixed 0 = .ok (.ldc2_w 279, 3) := by decide +kernel
theorem dX6_mixed_3 : decode cX6_mixed 3 = .ok (.lload_n 0, 1) := by decide +kernel
theorem dX6_mixed_4 : decode cX6_mixed 4 = .ok (.lmul, 1) := by decide +kernel
theorem dX6_mixed_5 : decode cX6_mixed 5 = .ok (.lload_n 2, 1) := by decide +kernel
theorem dX6_mixed_6 : decode cX6_mixed 6 = .ok (.ladd, 1) := by decide +kernel
theorem dX6_mixed_7 : decode cX6_mixed 7 = .ok (.lreturn, 1) := by decide +kernel
set_option maxRecDepth 20000 in
theorem ggX6_rowsThatAre_X3_isNone : GoodIn wsX6_rowsThatAre wsX3_isNone := goodIn_r _ [6, 7, 16, 17] (by decide +kernel) (by decide +kernel)
set_option maxRecDepth 20000 in
theorem gX6_rowsThatAre_X3_isNone : GoodIn wsX6_rowsThatAre (wsV RX6 116 RX3 yX3_isNone wsX3_isNone) := goodIn_app (goodIn_of _ (by decide +kernel)) ggX6_rowsThatAre_X3_isNone
theorem dX6_rowsThatAre_0 : decode cX6_rowsThatAre 0 = .ok (.iconst 0, 1) := by decide +kernel
theorem dX6_rowsThatAre_1 : decode cX6_rowsThatAre 1 = .ok (.istore_n 1, 1) := by decide +kernel
theorem dX6_rowsThatAre_2 : decode cX6_rowsThatAre 2 = .ok (.iconst 0, 1) := by decide +kernel
theorem dX6_rowsThatAre_3 : decode cX6_rowsThatAre 3 = .ok (.istore_n 2, 1) := by decide +kernel
theorem dX6_rowsThatAre_4 : decode cX6_rowsThatAre 4 = .ok (.iload_n 2, 1) := by decide +kernel
theorem dX6_rowsThatAre_5 : decode cX6_rowsThatAre 5 = .ok (.bipush 8, 2) := by decide +kernel
theorem dX6_rowsThatAre_7 : decode cX6_rowsThatAre 7 = .ok (.if_icmp .ge 24, 3) := by decide +kernel
theorem dX6_rowsThatAre_10 : decode cX6_rowsThatAre 10 = .ok (.aload_n 0, 1) := by decide +kernel
theorem dX6_rowsThatAre_11 : decode cX6_rowsThatAre 11 = .ok (.getfield 11, 3) := by decide +kernel
theorem dX6_rowsThatAre_14 : decode cX6_rowsThatAre 14 = .ok (.iload_n 2, 1) := by decide +kernel
theorem dX6_rowsThatAre_15 : decode cX6_rowsThatAre 15 = .ok (.aaload, 1) := by decide +kernel
theorem dX6_rowsThatAre_16 : decode cX6_rowsThatAre 16 = .ok (.invokevirtual 116, 3) := by decide +kernel
theorem dX6_rowsThatAre_19 : decode cX6_rowsThatAre 19 = .ok (.ifCond .ne 6, 3) := by decide +kernel
theorem dX6_rowsThatAre_22 : decode cX6_rowsThatAre 22 = .ok (.iinc 1 1, 3) := by decide +kernel
theorem dX6_rowsThatAre_25 : decode cX6_rowsThatAre 25 = .ok (.iinc 2 1, 3) := by decide +kernel
theorem dX6_rowsThatAre_28 : decode cX6_rowsThatAre 28 = .ok (.goto (-24), 3) := by decide +kernel
theorem dX6_rowsThatAre_31 : decode cX6_rowsThatAre 31 = .ok (.iload_n 1, 1) := by decide +kernel
theorem dX6_rowsThatAre_32 : decode cX6_rowsThatAre 32 = .ok (.ireturn, 1) := by decide +kernel
set_option maxRecDepth 20000 in
theorem ggX6_listen_X2_itemOrZero : GoodIn wsX6_listen wsX2_itemOrZero := goodIn_r _ [7, 8, 9, 10, 11, 6, 12, 13, 14, 32, 33, 34, 35] (by decide +kernel) (by decide +kernel)
set_option maxRecDepth 20000 in
theorem gX6_listen_X2_itemOrZero : GoodIn wsX6_listen (wsV RX6 238 RX2 yX2_itemOrZero wsX2_itemOrZero) := goodIn_app (goodIn_of _ (by decide +kernel)) ggX6_listen_X2_itemOrZero
set_option maxRecDepth 20000 in
theorem ggX6_listen_X6_quietened : GoodIn wsX6_listen wsX6_quietened := goodIn_r _ [18] (by decide +kernel) (by decide +kernel)
set_option maxRecDepth 20000 in
theorem gX6_listen_X6_quietened : GoodIn wsX6_listen (va_wsS RX6 282 yX6_quietened wsX6_quietened) := goodIn_app (goodIn_of _ (by decide +kernel)) ggX6_listen_X6_quietened
theorem dX6_listen_0 : decode cX6_listen 0 = .ok (.aload_n 0, 1) := by decide +kernel
theorem dX6_listen_1 : decode cX6_listen 1 = .ok (.getfield 24, 3) := by decide +kernel
theorem dX6_listen_4 : decode cX6_listen 4 = .ok (.iload_n 2, 1) := by decide +kernel
theorem dX6_listen_5 : decode cX6_listen 5 = .ok (.putfield 281, 3) := by decide +kernel
theorem dX6_listen_8 : decode cX6_listen 8 = .ok (.iconst 0, 1) := by decide +kernel
theorem dX6_listen_9 : decode cX6_listen 9 = .ok (.istore_n 3, 1) := by decide +kernel
theorem dX6_listen_10 : decode cX6_listen 10 = .ok (.iload_n 3, 1) := by decide +kernel
theorem dX6_listen_11 : decode cX6_listen 11 = .ok (.iload_n 2, 1) := by decide +kernel
theorem dX6_listen_12 : decode cX6_listen 12 = .ok (.if_icmp .ge 57, 3) := by decide +kernel
theorem dX6_listen_15 : decode cX6_listen 15 = .ok (.aload_n 0, 1) := by decide +kernel
theorem dX6_listen_16 : decode cX6_listen 16 = .ok (.getfield 24, 3) := by decide +kernel
theorem dX6_listen_19 : decode cX6_listen 19 = .ok (.getfield 87, 3) := by decide +kernel
theorem dX6_listen_22 : decode cX6_listen 22 = .ok (.iload_n 3, 1) := by decide +kernel
theorem dX6_listen_23 : decode cX6_listen 23 = .ok (.aload_n 0, 1) := by decide +kernel
theorem dX6_listen_24 : decode cX6_listen 24 = .ok (.getfield 17, 3) := by decide +kernel
theorem dX6_listen_27 : decode cX6_listen 27 = .ok (.iconst 0, 1) := by decide +kernel
theorem dX6_listen_28 : decode cX6_listen 28 = .ok (.aaload, 1) := by decide +kernel
theorem dX6_listen_29 : decode cX6_listen 29 = .ok (.iload_n 1, 1) := by decide +kernel
theorem dX6_listen_30 : decode cX6_listen 30 = .ok (.iload_n 3, 1) := by decide +kernel
theorem dX6_listen_31 : decode cX6_listen 31 = .ok (.iadd, 1) := by decide +kernel
theorem dX6_listen_32 : decode cX6_listen 32 = .ok (.invokevirtual 238, 3) := by decide +kernel
theorem dX6_listen_35 : decode cX6_listen 35 = .ok (.invokestatic 282, 3) := by decide +kernel
theorem dX6_listen_38 : decode cX6_listen 38 = .ok (.iastore, 1) := by decide +kernel
theorem dX6_listen_39 : decode cX6_listen 39 = .ok (.aload_n 0, 1) := by decide +kernel
theorem dX6_listen_40 : decode cX6_listen 40 = .ok (.getfield 24, 3) := by decide +kernel
theorem dX6_listen_43 : decode cX6_listen 43 = .ok (.getfield 285, 3) := by decide +kernel
theorem dX6_listen_46 : decode cX6_listen 46 = .ok (.iload_n 3, 1) := by decide +kernel
theorem dX6_listen_47 : decode cX6_listen 47 = .ok (.aload_n 0, 1) := by decide +kernel
theorem dX6_listen_48 : decode cX6_listen 48 = .ok (.getfield 17, 3) := by decide +kernel
theorem dX6_listen_51 : decode cX6_listen 51 = .ok (.iconst 1, 1) := by decide +kernel
theorem dX6_listen_52 : decode cX6_listen 52 = .ok (.aaload, 1) := by decide +kernel
theorem dX6_listen_53 : decode cX6_listen 53 = .ok (.iload_n 1, 1) := by decide +kernel
theorem dX6_listen_54 : decode cX6_listen 54 = .ok (.iload_n 3, 1) := by decide +kernel
theorem dX6_listen_55 : decode cX6_listen 55 = .ok (.iadd, 1) := by decide +kernel
theorem dX6_listen_56 : decode cX6_listen 56 = .ok (.invokevirtual 238, 3) := by decide +kernel
theorem dX6_listen_59 : decode cX6_listen 59 = .ok (.invokestatic 282, 3) := by decide +kernel
theorem dX6_listen_62 : decode cX6_listen 62 = .ok (.iastore, 1) := by decide +kernel
theorem dX6_listen_63 : decode cX6_listen 63 = .ok (.iinc 3 1, 3) := by decide +kernel
theorem dX6_listen_66 : decode cX6_listen 66 = .ok (.goto (-56), 3) := by decide +kernel
theorem dX6_listen_69 : decode cX6_listen 69 = .ok (.return_, 1) := by decide +kernel
theorem dX6_quietened_0 : decode cX6_quietened 0 = .ok (.iload_n 0, 1) := by decide +kernel
theorem dX6_quietened_1 : decode cX6_quietened 1 = .ok (.sipush (-10000), 3) := by decide +kernel
theorem dX6_quietened_4 : decode cX6_quietened 4 = .ok (.if_icmp .lt 10, 3) := by decide +kernel
theorem dX6_quietened_7 : decode cX6_quietened 7 = .ok (.iload_n 0, 1) := by decide +kernel
theorem dX6_quietened_8 : decode cX6_quietened 8 = .ok (.sipush 10000, 3) := by decide +kernel
theorem dX6_quietened_11 : decode cX6_quietened 11 = .ok (.if_icmp .le 7, 3) := by decide +kernel
theorem dX6_quietened_14 : decode cX6_quietened 14 = .ok (.iconst 0, 1) := by decide +kernel
theorem dX6_quietened_15 : decode cX6_quietened 15 = .ok (.goto 4, 3) := by decide +kernel
theorem dX6_quietened_18 : decode cX6_quietened 18 = .ok (.iload_n 0, 1) := by decide +kernel
theorem dX6_quietened_19 : decode cX6_quietened 19 = .ok (.ireturn, 1) := by decide +kernel
set_option maxRecDepth 20000 in
theorem ggX6_searchFor_X6_isRow : GoodIn wsX6_searchFor wsX6_isRow := goodIn_r _ [7] (by decide +kernel) (by decide +kernel)
set_option maxRecDepth 20000 in
theorem gX6_searchFor_X6_isRow : GoodIn wsX6_searchFor (va_wsS RX6 58 yX6_isRow wsX6_isRow) := goodIn_app (goodIn_of _ (by decide +kernel)) ggX6_searchFor_X6_isRow
set_option maxRecDepth 20000 in
theorem ggX6_searchFor_X6_isPlace : GoodIn wsX6_searchFor wsX6_isPlace := goodIn_r _ [10] (by decide +kernel) (by decide +kernel)
set_option maxRecDepth 20000 in
theorem gX6_searchFor_X6_isPlace : GoodIn wsX6_searchFor (va_wsS RX6 136 yX6_isPlace wsX6_isPlace) := goodIn_app (goodIn_of _ (by decide +kernel)) ggX6_searchFor_X6_isPlace
set_option maxRecDepth 20000 in
theorem ggX6_searchFor_X3_isNone : GoodIn wsX6_searchFor wsX3_isNone := goodIn_r _ [15, 16, 78, 79] (by decide +kernel) (by decide +kernel)
set_option maxRecDepth 20000 in
theorem gX6_searchFor_X3_isNone : GoodIn wsX6_searchFor (wsV RX6 116 RX3 yX3_isNone wsX3_isNone) := goodIn_app (goodIn_of _ (by decide +kernel)) ggX6_searchFor_X3_isNone
set_option maxRecDepth 20000 in
theorem ggX6_searchFor_X6_listen : GoodIn wsX6_searchFor wsX6_listen := goodIn_r _ [20, 3, 21, 22, 23, 24, 25, 26, 27, 28, 29, 30, 31, 32, 33, 34, 35, 6, 36, 70, 71, 72, 73, 74, 75, 76, 77, 80, 81, 82, 83, 84, 85, 86, 87, 88] (by decide +kernel) (by decide +kernel)
set_option maxRecDepth 20000 in
theorem gX6_searchFor_X6_listen : GoodIn wsX6_searchFor (wsV RX6 142 RX6 yX6_listen wsX6_listen) := goodIn_app (goodIn_of _ (by decide +kernel)) ggX6_searchFor_X6_listen
set_option maxRecDepth 20000 in
theorem ggX6_searchFor_X4_begin : GoodIn wsX6_searchFor wsX4_begin := goodIn_r _ [41, 42, 43, 44, 89, 90, 91, 92] (by decide +kernel) (by decide +kernel)
set_option maxRecDepth 20000 in
theorem gX6_searchFor_X4_begin : GoodIn wsX6_searchFor (wsV RX6 288 RX4 yX4_begin wsX4_begin) := goodIn_app (goodIn_of _ (by decide +kernel)) ggX6_searchFor_X4_begin
set_option maxRecDepth 20000 in
theorem ggX6_searchFor_X5_turnBack : GoodIn wsX6_searchFor wsX5_turnBack := goodIn_r _ [49, 50, 51, 52, 53, 54, 80, 81, 82, 83, 84] (by decide +kernel) (by decide +kernel)
set_option maxRecDepth 20000 in
theorem gX6_searchFor_X5_turnBack : GoodIn wsX6_searchFor (wsV RX6 146 RX5 yX5_turnBack wsX5_turnBack) := goodIn_app (goodIn_of _ (by decide +kernel)) ggX6_searchFor_X5_turnBack
set_option maxRecDepth 20000 in
theorem ggX6_searchFor_X3_sumOver : GoodIn wsX6_searchFor wsX3_sumOver := goodIn_r _ [58, 16, 59, 60, 61, 62, 63, 78, 79] (by decide +kernel) (by decide +kernel)
set_option maxRecDepth 20000 in
theorem gX6_searchFor_X3_sumOver : GoodIn wsX6_searchFor (wsV RX6 123 RX3 yX3_sumOver wsX3_sumOver) := goodIn_app (goodIn_of _ (by decide +kernel)) ggX6_searchFor_X3_sumOver
set_option maxRecDepth 20000 in
theorem ggX6_searchFor_X4_weigh : GoodIn wsX6_searchFor wsX4_weigh := goodIn_r _ [67, 43, 44, 68, 69, 89, 90, 91, 92] (by decide +kernel) (by decide +kernel)
set_option maxRecDepth 20000 in
theorem gX6_searchFor_X4_weigh : GoodIn wsX6_searchFor (wsV RX6 291 RX4 yX4_weigh wsX4_weigh) := goodIn_app (goodIn_of _ (by decide +kernel)) ggX6_searchFor_X4_weigh
theorem dX6_searchFor_0 : decode cX6_searchFor 0 = .ok (.iload_n 1, 1) := by decide +kernel
theorem dX6_searchFor_1 : decode cX6_searchFor 1 = .ok (.invokestatic 58, 3) := by decide +kernel
theorem dX6_searchFor_4 : decode cX6_searchFor 4 = .ok (.ifCond .eq 10, 3) := by decide +kernel
theorem dX6_searchFor_7 : decode cX6_searchFor 7 = .ok (.iload_n 2, 1) := by decide +kernel
theorem dX6_searchFor_8 : decode cX6_searchFor 8 = .ok (.invokestatic 136, 3) := by decide +kernel
theorem dX6_searchFor_11 : decode cX6_searchFor 11 = .ok (.ifCond .ne 6, 3) := by decide +kernel
theorem dX6_searchFor_14 : decode cX6_searchFor 14 = .ok (.bipush (-2), 2) := by decide +kernel
theorem dX6_searchFor_16 : decode cX6_searchFor 16 = .ok (.ireturn, 1) := by decide +kernel
theorem dX6_searchFor_17 : decode cX6_searchFor 17 = .ok (.aload_n 0, 1) := by decide +kernel
theorem dX6_searchFor_18 : decode cX6_searchFor 18 = .ok (.getfield 11, 3) := by decide +kernel
theorem dX6_searchFor_21 : decode cX6_searchFor 21 = .ok (.iload_n 1, 1) := by decide +kernel
theorem dX6_searchFor_22 : decode cX6_searchFor 22 = .ok (.aaload, 1) := by decide +kernel
theorem dX6_searchFor_23 : decode cX6_searchFor 23 = .ok (.invokevirtual 116, 3) := by decide +kernel
theorem dX6_searchFor_26 : decode cX6_searchFor 26 = .ok (.ifCond .eq 6, 3) := by decide +kernel
theorem dX6_searchFor_29 : decode cX6_searchFor 29 = .ok (.bipush (-3), 2) := by decide +kernel
theorem dX6_searchFor_31 : decode cX6_searchFor 31 = .ok (.ireturn, 1) := by decide +kernel
theorem dX6_searchFor_32 : decode cX6_searchFor 32 = .ok (.aload_n 0, 1) := by decide +kernel
theorem dX6_searchFor_33 : decode cX6_searchFor 33 = .ok (.iload_n 2, 1) := by decide +kernel
theorem dX6_searchFor_34 : decode cX6_searchFor 34 = .ok (.aload_n 0, 1) := by decide +kernel
theorem dX6_searchFor_35 : decode cX6_searchFor 35 = .ok (.getfield 11, 3) := by decide +kernel
theorem dX6_searchFor_38 : decode cX6_searchFor 38 = .ok (.iload_n 1, 1) := by decide +kernel
theorem dX6_searchFor_39 : decode cX6_searchFor 39 = .ok (.aaload, 1) := by decide +kernel
theorem dX6_searchFor_40 : decode cX6_searchFor 40 = .ok (.getfield 70, 3) := by decide +kernel
theorem dX6_searchFor_43 : decode cX6_searchFor 43 = .ok (.invokevirtual 142, 3) := by decide +kernel
theorem dX6_searchFor_46 : decode cX6_searchFor 46 = .ok (.aload_n 0, 1) := by decide +kernel
theorem dX6_searchFor_47 : decode cX6_searchFor 47 = .ok (.getfield 31, 3) := by decide +kernel
theorem dX6_searchFor_50 : decode cX6_searchFor 50 = .ok (.invokevirtual 288, 3) := by decide +kernel
theorem dX6_searchFor_53 : decode cX6_searchFor 53 = .ok (.iconst 0, 1) := by decide +kernel
theorem dX6_searchFor_54 : decode cX6_searchFor 54 = .ok (.istore_n 3, 1) := by decide +kernel
theorem dX6_searchFor_55 : decode cX6_searchFor 55 = .ok (.iload_n 3, 1) := by decide +kernel
theorem dX6_searchFor_56 : decode cX6_searchFor 56 = .ok (.iconst 4, 1) := by decide +kernel
theorem dX6_searchFor_57 : decode cX6_searchFor 57 = .ok (.if_icmp .ge 103, 3) := by decide +kernel
theorem dX6_searchFor_60 : decode cX6_searchFor 60 = .ok (.aload_n 0, 1) := by decide +kernel
theorem dX6_searchFor_61 : decode cX6_searchFor 61 = .ok (.getfield 24, 3) := by decide +kernel
theorem dX6_searchFor_64 : decode cX6_searchFor 64 = .ok (.iload_n 3, 1) := by decide +kernel
theorem dX6_searchFor_65 : decode cX6_searchFor 65 = .ok (.invokevirtual 146, 3) := by decide +kernel
theorem dX6_searchFor_68 : decode cX6_searchFor 68 = .ok (.iconst 0, 1) := by decide +kernel
theorem dX6_searchFor_69 : decode cX6_searchFor 69 = .ok (.istore 4, 2) := by decide +kernel
theorem dX6_searchFor_71 : decode cX6_searchFor 71 = .ok (.iload 4, 2) := by decide +kernel
theorem dX6_searchFor_73 : decode cX6_searchFor 73 = .ok (.aload_n 0, 1) := by decide +kernel
theorem dX6_searchFor_74 : decode cX6_searchFor 74 = .ok (.getfield 11, 3) := by decide +kernel
theorem dX6_searchFor_77 : decode cX6_searchFor 77 = .ok (.iload_n 1, 1) := by decide +kernel
theorem dX6_searchFor_78 : decode cX6_searchFor 78 = .ok (.aaload, 1) := by decide +kernel
theorem dX6_searchFor_79 : decode cX6_searchFor 79 = .ok (.getfield 70, 3) := by decide +kernel
theorem dX6_searchFor_82 : decode cX6_searchFor 82 = .ok (.if_icmp .ge 72, 3) := by decide +kernel
theorem dX6_searchFor_85 : decode cX6_searchFor 85 = .ok (.aload_n 0, 1) := by decide +kernel
theorem dX6_searchFor_86 : decode cX6_searchFor 86 = .ok (.getfield 11, 3) := by decide +kernel
theorem dX6_searchFor_89 : decode cX6_searchFor 89 = .ok (.iload_n 1, 1) := by decide +kernel
theorem dX6_searchFor_90 : decode cX6_searchFor 90 = .ok (.aaload, 1) := by decide +kernel
theorem dX6_searchFor_91 : decode cX6_searchFor 91 = .ok (.aload_n 0, 1) := by decide +kernel
theorem dX6_searchFor_92 : decode cX6_searchFor 92 = .ok (.getfield 24, 3) := by decide +kernel
theorem dX6_searchFor_95 : decode cX6_searchFor 95 = .ok (.getfield 150, 3) := by decide +kernel
theorem dX6_searchFor_98 : decode cX6_searchFor 98 = .ok (.iload 4, 2) := by decide +kernel
theorem dX6_searchFor_100 : decode cX6_searchFor 100 = .ok (.invokevirtual 123, 3) := by decide +kernel
theorem dX6_searchFor_103 : decode cX6_searchFor 103 = .ok (.i2l, 1) := by decide +kernel
theorem dX6_searchFor_104 : decode cX6_searchFor 104 = .ok (.lstore 5, 2) := by decide +kernel
theorem dX6_searchFor_106 : decode cX6_searchFor 106 = .ok (.aload_n 0, 1) := by decide +kernel
theorem dX6_searchFor_107 : decode cX6_searchFor 107 = .ok (.getfield 11, 3) := by decide +kernel
theorem dX6_searchFor_110 : decode cX6_searchFor 110 = .ok (.iload_n 1, 1) := by decide +kernel
theorem dX6_searchFor_111 : decode cX6_searchFor 111 = .ok (.aaload, 1) := by decide +kernel
theorem dX6_searchFor_112 : decode cX6_searchFor 112 = .ok (.aload_n 0, 1) := by decide +kernel
theorem dX6_searchFor_113 : decode cX6_searchFor 113 = .ok (.getfield 24, 3) := by decide +kernel
theorem dX6_searchFor_116 : decode cX6_searchFor 116 = .ok (.getfield 153, 3) := by decide +kernel
theorem dX6_searchFor_119 : decode cX6_searchFor 119 = .ok (.iload 4, 2) := by decide +kernel
theorem dX6_searchFor_121 : decode cX6_searchFor 121 = .ok (.invokevirtual 123, 3) := by decide +kernel
theorem dX6_searchFor_124 : decode cX6_searchFor 124 = .ok (.i2l, 1) := by decide +kernel
theorem dX6_searchFor_125 : decode cX6_searchFor 125 = .ok (.lstore 7, 2) := by decide +kernel
theorem dX6_searchFor_127 : decode cX6_searchFor 127 = .ok (.aload_n 0, 1) := by decide +kernel
theorem dX6_searchFor_128 : decode cX6_searchFor 128 = .ok (.getfield 31, 3) := by decide +kernel
theorem dX6_searchFor_131 : decode cX6_searchFor 131 = .ok (.lload 5, 2) := by decide +kernel
theorem dX6_searchFor_133 : decode cX6_searchFor 133 = .ok (.lload 5, 2) := by decide +kernel
theorem dX6_searchFor_135 : decode cX6_searchFor 135 = .ok (.lmul, 1) := by decide +kernel
theorem dX6_searchFor_136 : decode cX6_searchFor 136 = .ok (.lload 7, 2) := by decide +kernel
theorem dX6_searchFor_138 : decode cX6_searchFor 138 = .ok (.lload 7, 2) := by decide +kernel
theorem dX6_searchFor_140 : decode cX6_searchFor 140 = .ok (.lmul, 1) := by decide +kernel
theorem dX6_searchFor_141 : decode cX6_searchFor 141 = .ok (.ladd, 1) := by decide +kernel
theorem dX6_searchFor_142 : decode cX6_searchFor 142 = .ok (.iload_n 3, 1) := by decide +kernel
theorem dX6_searchFor_143 : decode cX6_searchFor 143 = .ok (.iload 4, 2) := by decide +kernel
theorem dX6_searchFor_145 : decode cX6_searchFor 145 = .ok (.invokevirtual 291, 3) := by decide +kernel
theorem dX6_searchFor_148 : decode cX6_searchFor 148 = .ok (.iinc 4 1, 3) := by decide +kernel
theorem dX6_searchFor_151 : decode cX6_searchFor 151 = .ok (.goto (-80), 3) := by decide +kernel
theorem dX6_searchFor_154 : decode cX6_searchFor 154 = .ok (.iinc 3 1, 3) := by decide +kernel
theorem dX6_searchFor_157 : decode cX6_searchFor 157 = .ok (.goto (-102), 3) := by decide +kernel
theorem dX6_searchFor_160 : decode cX6_searchFor 160 = .ok (.iconst 0, 1) := by decide +kernel
theorem dX6_searchFor_161 : decode cX6_searchFor 161 = .ok (.ireturn, 1) := by decide +kernel
set_option maxRecDepth 20000 in
theorem ggX6_takeOffLoudest_X3_sumOver : GoodIn wsX6_takeOffLoudest wsX3_sumOver := goodIn_r _ [12, 13, 14, 15, 16, 17, 18, 51, 52] (by decide +kernel) (by decide +kernel)
set_option maxRecDepth 20000 in
theorem gX6_takeOffLoudest_X3_sumOver : GoodIn wsX6_takeOffLoudest (wsV RX6 123 RX3 yX3_sumOver wsX3_sumOver) := goodIn_app (goodIn_of _ (by decide +kernel)) ggX6_takeOffLoudest_X3_sumOver
set_option maxRecDepth 20000 in
theorem ggX6_takeOffLoudest_X6_roundedRatio : GoodIn wsX6_takeOffLoudest wsX6_roundedRatio := goodIn_r _ [22, 23, 24, 17, 25] (by decide +kernel) (by decide +kernel)
set_option maxRecDepth 20000 in
theorem gX6_takeOffLoudest_X6_roundedRatio : GoodIn wsX6_takeOffLoudest (va_wsS RX6 295 yX6_roundedRatio wsX6_roundedRatio) := goodIn_app (goodIn_of _ (by decide +kernel)) ggX6_takeOffLoudest_X6_roundedRatio
set_option maxRecDepth 20000 in
theorem ggX6_takeOffLoudest_X3_takeOff : GoodIn wsX6_takeOffLoudest wsX3_takeOff := goodIn_r _ [29, 13, 30, 31, 32, 11, 33, 14, 15, 16, 17, 18, 51, 52] (by decide +kernel) (by decide +kernel)
set_option maxRecDepth 20000 in
theorem gX6_takeOffLoudest_X3_takeOff : GoodIn wsX6_takeOffLoudest (wsV RX6 298 RX3 yX3_takeOff wsX3_takeOff) := goodIn_app (goodIn_of _ (by decide +kernel)) ggX6_takeOffLoudest_X3_takeOff
set_option maxRecDepth 20000 in
theorem ggX6_takeOffLoudest_X1_keep : GoodIn wsX6_takeOffLoudest wsX1_keep := goodIn_r _ [38, 39, 40, 41, 42, 58, 59, 60, 61, 62] (by decide +kernel) (by decide +kernel)
set_option maxRecDepth 20000 in
theorem gX6_takeOffLoudest_X1_keep : GoodIn wsX6_takeOffLoudest (wsV RX6 302 RX1 yX1_keep wsX1_keep) := goodIn_app (goodIn_of _ (by decide +kernel)) ggX6_takeOffLoudest_X1_keep
theorem dX6_takeOffLoudest_0 : decode cX6_takeOffLoudest 0 = .ok (.iconst 0, 1) := by decide +kernel
theorem dX6_takeOffLoudest_1 : decode cX6_takeOffLoudest 1 = .ok (.istore_n 2, 1) := by decide +kernel
theorem dX6_takeOffLoudest_2 : decode cX6_takeOffLoudest 2 = .ok (.iconst 0, 1) := by decide +kernel
theorem dX6_takeOffLoudest_3 : decode cX6_takeOffLoudest 3 = .ok (.istore_n 3, 1) := by decide +kernel
theorem dX6_takeOffLoudest_4 : decode cX6_takeOffLoudest 4 = .ok (.iconst 0, 1) := by decide +kernel
theorem dX6_takeOffLoudest_5 : decode cX6_takeOffLoudest 5 = .ok (.istore 4, 2) := by decide +kernel
theorem dX6_takeOffLoudest_7 : decode cX6_takeOffLoudest 7 = .ok (.iconst 0, 1) := by decide +kernel
theorem dX6_takeOffLoudest_8 : decode cX6_takeOffLoudest 8 = .ok (.istore 5, 2) := by decide +kernel
theorem dX6_takeOffLoudest_10 : decode cX6_takeOffLoudest 10 = .ok (.iload 5, 2) := by decide +kernel
theorem dX6_takeOffLoudest_12 : decode cX6_takeOffLoudest 12 = .ok (.bipush 8, 2) := by decide +kernel
theorem dX6_takeOffLoudest_14 : decode cX6_takeOffLoudest 14 = .ok (.if_icmp .ge 84, 3) := by decide +kernel
theorem dX6_takeOffLoudest_17 : decode cX6_takeOffLoudest 17 = .ok (.aload_n 0, 1) := by decide +kernel
theorem dX6_takeOffLoudest_18 : decode cX6_takeOffLoudest 18 = .ok (.getfield 11, 3) := by decide +kernel
theorem dX6_takeOffLoudest_21 : decode cX6_takeOffLoudest 21 = .ok (.iload 5, 2) := by decide +kernel
theorem dX6_takeOffLoudest_23 : decode cX6_takeOffLoudest 23 = .ok (.aaload, 1) := by decide +kernel
theorem dX6_takeOffLoudest_24 : decode cX6_takeOffLoudest 24 = .ok (.getfield 70, 3) := by decide +kernel
theorem dX6_takeOffLoudest_27 : decode cX6_takeOffLoudest 27 = .ok (.iload_n 1, 1) := by decide +kernel
theorem dX6_takeOffLoudest_28 : decode cX6_takeOffLoudest 28 = .ok (.if_icmp .eq 6, 3) := by decide +kernel
theorem dX6_takeOffLoudest_31 : decode cX6_takeOffLoudest 31 = .ok (.goto 61, 3) := by decide +kernel
theorem dX6_takeOffLoudest_34 : decode cX6_takeOffLoudest 34 = .ok (.iconst 0, 1) := by decide +kernel
theorem dX6_takeOffLoudest_35 : decode cX6_takeOffLoudest 35 = .ok (.istore 6, 2) := by decide +kernel
theorem dX6_takeOffLoudest_37 : decode cX6_takeOffLoudest 37 = .ok (.iload 6, 2) := by decide +kernel
theorem dX6_takeOffLoudest_39 : decode cX6_takeOffLoudest 39 = .ok (.iload_n 1, 1) := by decide +kernel
theorem dX6_takeOffLoudest_40 : decode cX6_takeOffLoudest 40 = .ok (.if_icmp .ge 52, 3) := by decide +kernel
theorem dX6_takeOffLoudest_43 : decode cX6_takeOffLoudest 43 = .ok (.aload_n 0, 1) := by decide +kernel
theorem dX6_takeOffLoudest_44 : decode cX6_takeOffLoudest 44 = .ok (.getfield 11, 3) := by decide +kernel
theorem dX6_takeOffLoudest_47 : decode cX6_takeOffLoudest 47 = .ok (.iload 5, 2) := by decide +kernel
theorem dX6_takeOffLoudest_49 : decode cX6_takeOffLoudest 49 = .ok (.aaload, 1) := by decide +kernel
end
section
theorem dX6_takeOffLoudest_50 : decode cX6_takeOffLoudest 50 = .ok (.aload_n 0, 1) := by decide +kernel
theorem dX6_takeOffLoudest_51 : decode cX6_takeOffLoudest 51 = .ok (.getfield 24, 3) := by decide +kernel
theorem dX6_takeOffLoudest_54 : decode cX6_takeOffLoudest 54 = .ok (.getfield 87, 3) := by decide +kernel
theorem dX6_takeOffLoudest_57 : decode cX6_takeOffLoudest 57 = .ok (.iload 6, 2) := by decide +kernel
theorem dX6_takeOffLoudest_59 : decode cX6_takeOffLoudest 59 = .ok (.invokevirtual 123, 3) := by decide +kernel
theorem dX6_takeOffLoudest_62 : decode cX6_takeOffLoudest 62 = .ok (.istore 7, 2) := by decide +kernel
theorem dX6_takeOffLoudest_64 : decode cX6_takeOffLoudest 64 = .ok (.iload 7, 2) := by decide +kernel
theorem dX6_takeOffLoudest_66 : decode cX6_takeOffLoudest 66 = .ok (.invokestatic 127, 3) := by decide +kernel
theorem dX6_takeOffLoudest_69 : decode cX6_takeOffLoudest 69 = .ok (.iload_n 2, 1) := by decide +kernel
theorem dX6_takeOffLoudest_70 : decode cX6_takeOffLoudest 70 = .ok (.invokestatic 127, 3) := by decide +kernel
theorem dX6_takeOffLoudest_73 : decode cX6_takeOffLoudest 73 = .ok (.if_icmp .le 13, 3) := by decide +kernel
theorem dX6_takeOffLoudest_76 : decode cX6_takeOffLoudest 76 = .ok (.iload 7, 2) := by decide +kernel
theorem dX6_takeOffLoudest_78 : decode cX6_takeOffLoudest 78 = .ok (.istore_n 2, 1) := by decide +kernel
theorem dX6_takeOffLoudest_79 : decode cX6_takeOffLoudest 79 = .ok (.iload 5, 2) := by decide +kernel
theorem dX6_takeOffLoudest_81 : decode cX6_takeOffLoudest 81 = .ok (.istore_n 3, 1) := by decide +kernel
theorem dX6_takeOffLoudest_82 : decode cX6_takeOffLoudest 82 = .ok (.iload 6, 2) := by decide +kernel
theorem dX6_takeOffLoudest_84 : decode cX6_takeOffLoudest 84 = .ok (.istore 4, 2) := by decide +kernel
theorem dX6_takeOffLoudest_86 : decode cX6_takeOffLoudest 86 = .ok (.iinc 6 1, 3) := by decide +kernel
theorem dX6_takeOffLoudest_89 : decode cX6_takeOffLoudest 89 = .ok (.goto (-52), 3) := by decide +kernel
theorem dX6_takeOffLoudest_92 : decode cX6_takeOffLoudest 92 = .ok (.iinc 5 1, 3) := by decide +kernel
theorem dX6_takeOffLoudest_95 : decode cX6_takeOffLoudest 95 = .ok (.goto (-85), 3) := by decide +kernel
theorem dX6_takeOffLoudest_98 : decode cX6_takeOffLoudest 98 = .ok (.iload_n 2, 1) := by decide +kernel
theorem dX6_takeOffLoudest_99 : decode cX6_takeOffLoudest 99 = .ok (.iload_n 1, 1) := by decide +kernel
theorem dX6_takeOffLoudest_100 : decode cX6_takeOffLoudest 100 = .ok (.invokestatic 295, 3) := by decide +kernel
theorem dX6_takeOffLoudest_103 : decode cX6_takeOffLoudest 103 = .ok (.istore 5, 2) := by decide +kernel
theorem dX6_takeOffLoudest_105 : decode cX6_takeOffLoudest 105 = .ok (.iload 5, 2) := by decide +kernel
theorem dX6_takeOffLoudest_107 : decode cX6_takeOffLoudest 107 = .ok (.ifCond .ne 5, 3) := by decide +kernel
theorem dX6_takeOffLoudest_110 : decode cX6_takeOffLoudest 110 = .ok (.iconst 0, 1) := by decide +kernel
theorem dX6_takeOffLoudest_111 : decode cX6_takeOffLoudest 111 = .ok (.ireturn, 1) := by decide +kernel
theorem dX6_takeOffLoudest_112 : decode cX6_takeOffLoudest 112 = .ok (.aload_n 0, 1) := by decide +kernel
theorem dX6_takeOffLoudest_113 : decode cX6_takeOffLoudest 113 = .ok (.getfield 11, 3) := by decide +kernel
theorem dX6_takeOffLoudest_116 : decode cX6_takeOffLoudest 116 = .ok (.iload_n 3, 1) := by decide +kernel
theorem dX6_takeOffLoudest_117 : decode cX6_takeOffLoudest 117 = .ok (.aaload, 1) := by decide +kernel
theorem dX6_takeOffLoudest_118 : decode cX6_takeOffLoudest 118 = .ok (.aload_n 0, 1) := by decide +kernel
theorem dX6_takeOffLoudest_119 : decode cX6_takeOffLoudest 119 = .ok (.getfield 24, 3) := by decide +kernel
theorem dX6_takeOffLoudest_122 : decode cX6_takeOffLoudest 122 = .ok (.getfield 87, 3) := by decide +kernel
theorem dX6_takeOffLoudest_125 : decode cX6_takeOffLoudest 125 = .ok (.iload 4, 2) := by decide +kernel
theorem dX6_takeOffLoudest_127 : decode cX6_takeOffLoudest 127 = .ok (.iload 5, 2) := by decide +kernel
theorem dX6_takeOffLoudest_129 : decode cX6_takeOffLoudest 129 = .ok (.invokevirtual 298, 3) := by decide +kernel
theorem dX6_takeOffLoudest_132 : decode cX6_takeOffLoudest 132 = .ok (.aload_n 0, 1) := by decide +kernel
theorem dX6_takeOffLoudest_133 : decode cX6_takeOffLoudest 133 = .ok (.getfield 38, 3) := by decide +kernel
theorem dX6_takeOffLoudest_136 : decode cX6_takeOffLoudest 136 = .ok (.iload_n 3, 1) := by decide +kernel
theorem dX6_takeOffLoudest_137 : decode cX6_takeOffLoudest 137 = .ok (.iload 4, 2) := by decide +kernel
theorem dX6_takeOffLoudest_139 : decode cX6_takeOffLoudest 139 = .ok (.iload 5, 2) := by decide +kernel
theorem dX6_takeOffLoudest_141 : decode cX6_takeOffLoudest 141 = .ok (.invokevirtual 302, 3) := by decide +kernel
theorem dX6_takeOffLoudest_144 : decode cX6_takeOffLoudest 144 = .ok (.iconst 1, 1) := by decide +kernel
theorem dX6_takeOffLoudest_145 : decode cX6_takeOffLoudest 145 = .ok (.ireturn, 1) := by decide +kernel
set_option maxRecDepth 20000 in
theorem ggX6_roundedRatio_J9_floorDiv_7cf53 : GoodIn wsX6_roundedRatio wsJ9_floorDiv_7cf53 := goodIn_r _ [4] (by decide +kernel) (by decide +kernel)
set_option maxRecDepth 20000 in
theorem gX6_roundedRatio_J9_floorDiv_7cf53 : GoodIn wsX6_roundedRatio (va_wsS RX6 304 yJ9_floorDiv_7cf53 wsJ9_floorDiv_7cf53) := goodIn_app (goodIn_of _ (by decide +kernel)) ggX6_roundedRatio_J9_floorDiv_7cf53
theorem dX6_roundedRatio_0 : decode cX6_roundedRatio 0 = .ok (.iload_n 1, 1) := by decide +kernel
theorem dX6_roundedRatio_1 : decode cX6_roundedRatio 1 = .ok (.iconst 1, 1) := by decide +kernel
theorem dX6_roundedRatio_2 : decode cX6_roundedRatio 2 = .ok (.if_icmp .ge 7, 3) := by decide +kernel
theorem dX6_roundedRatio_5 : decode cX6_roundedRatio 5 = .ok (.iconst 0, 1) := by decide +kernel
theorem dX6_roundedRatio_6 : decode cX6_roundedRatio 6 = .ok (.goto 14, 3) := by decide +kernel
theorem dX6_roundedRatio_9 : decode cX6_roundedRatio 9 = .ok (.iconst 2, 1) := by decide +kernel
theorem dX6_roundedRatio_10 : decode cX6_roundedRatio 10 = .ok (.iload_n 0, 1) := by decide +kernel
theorem dX6_roundedRatio_11 : decode cX6_roundedRatio 11 = .ok (.imul, 1) := by decide +kernel
theorem dX6_roundedRatio_12 : decode cX6_roundedRatio 12 = .ok (.iload_n 1, 1) := by decide +kernel
theorem dX6_roundedRatio_13 : decode cX6_roundedRatio 13 = .ok (.iadd, 1) := by decide +kernel
theorem dX6_roundedRatio_14 : decode cX6_roundedRatio 14 = .ok (.iconst 2, 1) := by decide +kernel
theorem dX6_roundedRatio_15 : decode cX6_roundedRatio 15 = .ok (.iload_n 1, 1) := by decide +kernel
theorem dX6_roundedRatio_16 : decode cX6_roundedRatio 16 = .ok (.imul, 1) := by decide +kernel
theorem dX6_roundedRatio_17 : decode cX6_roundedRatio 17 = .ok (.invokestatic 304, 3) := by decide +kernel
theorem dX6_roundedRatio_20 : decode cX6_roundedRatio 20 = .ok (.ireturn, 1) := by decide +kernel
set_option maxRecDepth 20000 in
theorem ggX6_loudestNear_X3_sumOver : GoodIn wsX6_loudestNear wsX3_sumOver := goodIn_r _ [10, 11, 12, 13, 14, 15, 16, 17, 18] (by decide +kernel) (by decide +kernel)
set_option maxRecDepth 20000 in
theorem gX6_loudestNear_X3_sumOver : GoodIn wsX6_loudestNear (wsV RX6 123 RX3 yX3_sumOver wsX3_sumOver) := goodIn_app (goodIn_of _ (by decide +kernel)) ggX6_loudestNear_X3_sumOver
theorem dX6_loudestNear_0 : decode cX6_loudestNear 0 = .ok (.iload_n 2, 1) := by decide +kernel
theorem dX6_loudestNear_1 : decode cX6_loudestNear 1 = .ok (.aload_n 1, 1) := by decide +kernel
theorem dX6_loudestNear_2 : decode cX6_loudestNear 2 = .ok (.getfield 70, 3) := by decide +kernel
theorem dX6_loudestNear_5 : decode cX6_loudestNear 5 = .ok (.iadd, 1) := by decide +kernel
theorem dX6_loudestNear_6 : decode cX6_loudestNear 6 = .ok (.iconst 1, 1) := by decide +kernel
theorem dX6_loudestNear_7 : decode cX6_loudestNear 7 = .ok (.isub, 1) := by decide +kernel
theorem dX6_loudestNear_8 : decode cX6_loudestNear 8 = .ok (.istore_n 3, 1) := by decide +kernel
theorem dX6_loudestNear_9 : decode cX6_loudestNear 9 = .ok (.aload_n 1, 1) := by decide +kernel
theorem dX6_loudestNear_10 : decode cX6_loudestNear 10 = .ok (.aload_n 0, 1) := by decide +kernel
theorem dX6_loudestNear_11 : decode cX6_loudestNear 11 = .ok (.getfield 24, 3) := by decide +kernel
theorem dX6_loudestNear_14 : decode cX6_loudestNear 14 = .ok (.getfield 87, 3) := by decide +kernel
theorem dX6_loudestNear_17 : decode cX6_loudestNear 17 = .ok (.iload_n 2, 1) := by decide +kernel
theorem dX6_loudestNear_18 : decode cX6_loudestNear 18 = .ok (.invokevirtual 123, 3) := by decide +kernel
theorem dX6_loudestNear_21 : decode cX6_loudestNear 21 = .ok (.invokestatic 127, 3) := by decide +kernel
theorem dX6_loudestNear_24 : decode cX6_loudestNear 24 = .ok (.istore 4, 2) := by decide +kernel
theorem dX6_loudestNear_26 : decode cX6_loudestNear 26 = .ok (.aload_n 1, 1) := by decide +kernel
theorem dX6_loudestNear_27 : decode cX6_loudestNear 27 = .ok (.aload_n 0, 1) := by decide +kernel
theorem dX6_loudestNear_28 : decode cX6_loudestNear 28 = .ok (.getfield 24, 3) := by decide +kernel
theorem dX6_loudestNear_31 : decode cX6_loudestNear 31 = .ok (.getfield 87, 3) := by decide +kernel
theorem dX6_loudestNear_34 : decode cX6_loudestNear 34 = .ok (.iload_n 3, 1) := by decide +kernel
theorem dX6_loudestNear_35 : decode cX6_loudestNear 35 = .ok (.invokevirtual 123, 3) := by decide +kernel
theorem dX6_loudestNear_38 : decode cX6_loudestNear 38 = .ok (.invokestatic 127, 3) := by decide +kernel
theorem dX6_loudestNear_41 : decode cX6_loudestNear 41 = .ok (.istore 5, 2) := by decide +kernel
theorem dX6_loudestNear_43 : decode cX6_loudestNear 43 = .ok (.aload_n 1, 1) := by decide +kernel
theorem dX6_loudestNear_44 : decode cX6_loudestNear 44 = .ok (.aload_n 0, 1) := by decide +kernel
theorem dX6_loudestNear_45 : decode cX6_loudestNear 45 = .ok (.getfield 24, 3) := by decide +kernel
theorem dX6_loudestNear_48 : decode cX6_loudestNear 48 = .ok (.getfield 87, 3) := by decide +kernel
theorem dX6_loudestNear_51 : decode cX6_loudestNear 51 = .ok (.iload_n 2, 1) := by decide +kernel
theorem dX6_loudestNear_52 : decode cX6_loudestNear 52 = .ok (.iconst 1, 1) := by decide +kernel
theorem dX6_loudestNear_53 : decode cX6_loudestNear 53 = .ok (.iadd, 1) := by decide +kernel
theorem dX6_loudestNear_54 : decode cX6_loudestNear 54 = .ok (.invokevirtual 123, 3) := by decide +kernel
theorem dX6_loudestNear_57 : decode cX6_loudestNear 57 = .ok (.invokestatic 127, 3) := by decide +kernel
theorem dX6_loudestNear_60 : decode cX6_loudestNear 60 = .ok (.istore 6, 2) := by decide +kernel
theorem dX6_loudestNear_62 : decode cX6_loudestNear 62 = .ok (.iload 4, 2) := by decide +kernel
theorem dX6_loudestNear_64 : decode cX6_loudestNear 64 = .ok (.iload 5, 2) := by decide +kernel
theorem dX6_loudestNear_66 : decode cX6_loudestNear 66 = .ok (.if_icmp .lt 12, 3) := by decide +kernel
theorem dX6_loudestNear_69 : decode cX6_loudestNear 69 = .ok (.iload 4, 2) := by decide +kernel
theorem dX6_loudestNear_71 : decode cX6_loudestNear 71 = .ok (.iload 6, 2) := by decide +kernel
theorem dX6_loudestNear_73 : decode cX6_loudestNear 73 = .ok (.if_icmp .lt 5, 3) := by decide +kernel
theorem dX6_loudestNear_76 : decode cX6_loudestNear 76 = .ok (.iload_n 2, 1) := by decide +kernel
theorem dX6_loudestNear_77 : decode cX6_loudestNear 77 = .ok (.ireturn, 1) := by decide +kernel
theorem dX6_loudestNear_78 : decode cX6_loudestNear 78 = .ok (.iload 5, 2) := by decide +kernel
theorem dX6_loudestNear_80 : decode cX6_loudestNear 80 = .ok (.iload 6, 2) := by decide +kernel
theorem dX6_loudestNear_82 : decode cX6_loudestNear 82 = .ok (.if_icmp .lt 7, 3) := by decide +kernel
theorem dX6_loudestNear_85 : decode cX6_loudestNear 85 = .ok (.iload_n 3, 1) := by decide +kernel
theorem dX6_loudestNear_86 : decode cX6_loudestNear 86 = .ok (.goto 6, 3) := by decide +kernel
theorem dX6_loudestNear_89 : decode cX6_loudestNear 89 = .ok (.iload_n 2, 1) := by decide +kernel
theorem dX6_loudestNear_90 : decode cX6_loudestNear 90 = .ok (.iconst 1, 1) := by decide +kernel
theorem dX6_loudestNear_91 : decode cX6_loudestNear 91 = .ok (.iadd, 1) := by decide +kernel
theorem dX6_loudestNear_92 : decode cX6_loudestNear 92 = .ok (.ireturn, 1) := by decide +kernel
theorem dX7_init_0 : decode cX7_init 0 = .ok (.aload_n 0, 1) := by decide +kernel
theorem dX7_init_1 : decode cX7_init 1 = .ok (.invokespecial 1, 3) := by decide +kernel
theorem dX7_init_4 : decode cX7_init 4 = .ok (.aload_n 0, 1) := by decide +kernel
theorem dX7_init_5 : decode cX7_init 5 = .ok (.bipush 8, 2) := by decide +kernel
theorem dX7_init_7 : decode cX7_init 7 = .ok (.newarray .int, 2) := by decide +kernel
theorem dX7_init_9 : decode cX7_init 9 = .ok (.putfield 7, 3) := by decide +kernel
theorem dX7_init_12 : decode cX7_init 12 = .ok (.aload_n 0, 1) := by decide +kernel
theorem dX7_init_13 : decode cX7_init 13 = .ok (.sipush 1016, 3) := by decide +kernel
theorem dX7_init_16 : decode cX7_init 16 = .ok (.newarray .int, 2) := by decide +kernel
theorem dX7_init_18 : decode cX7_init 18 = .ok (.putfield 13, 3) := by decide +kernel
theorem dX7_init_21 : decode cX7_init 21 = .ok (.aload_n 0, 1) := by decide +kernel
theorem dX7_init_22 : decode cX7_init 22 = .ok (.bipush 127, 2) := by decide +kernel
theorem dX7_init_24 : decode cX7_init 24 = .ok (.newarray .int, 2) := by decide +kernel
theorem dX7_init_26 : decode cX7_init 26 = .ok (.putfield 16, 3) := by decide +kernel
theorem dX7_init_29 : decode cX7_init 29 = .ok (.aload_n 0, 1) := by decide +kernel
theorem dX7_init_30 : decode cX7_init 30 = .ok (.bipush 50, 2) := by decide +kernel
theorem dX7_init_32 : decode cX7_init 32 = .ok (.putfield 19, 3) := by decide +kernel
theorem dX7_init_35 : decode cX7_init 35 = .ok (.aload_n 0, 1) := by decide +kernel
theorem dX7_init_36 : decode cX7_init 36 = .ok (.bipush 60, 2) := by decide +kernel
theorem dX7_init_38 : decode cX7_init 38 = .ok (.newarray .int, 2) := by decide +kernel
theorem dX7_init_40 : decode cX7_init 40 = .ok (.putfield 23, 3) := by decide +kernel
theorem dX7_init_43 : decode cX7_init 43 = .ok (.aload_n 0, 1) := by decide +kernel
theorem dX7_init_44 : decode cX7_init 44 = .ok (.bipush 127, 2) := by decide +kernel
theorem dX7_init_46 : decode cX7_init 46 = .ok (.newarray .int, 2) := by decide +kernel
theorem dX7_init_48 : decode cX7_init 48 = .ok (.putfield 26, 3) := by decide +kernel
theorem dX7_init_51 : decode cX7_init 51 = .ok (.aload_n 0, 1) := by decide +kernel
theorem dX7_init_52 : decode cX7_init 52 = .ok (.iconst 5, 1) := by decide +kernel
theorem dX7_init_53 : decode cX7_init 53 = .ok (.newarray .int, 2) := by decide +kernel
theorem dX7_init_55 : decode cX7_init 55 = .ok (.putfield 29, 3) := by decide +kernel
theorem dX7_init_58 : decode cX7_init 58 = .ok (.aload_n 0, 1) := by decide +kernel
theorem dX7_init_59 : decode cX7_init 59 = .ok (.iconst 5, 1) := by decide +kernel
theorem dX7_init_60 : decode cX7_init 60 = .ok (.newarray .int, 2) := by decide +kernel
theorem dX7_init_62 : decode cX7_init 62 = .ok (.putfield 32, 3) := by decide +kernel
theorem dX7_init_65 : decode cX7_init 65 = .ok (.aload_n 0, 1) := by decide +kernel
theorem dX7_init_66 : decode cX7_init 66 = .ok (.iconst 4, 1) := by decide +kernel
theorem dX7_init_67 : decode cX7_init 67 = .ok (.newarray .boolean, 2) := by decide +kernel
theorem dX7_init_69 : decode cX7_init 69 = .ok (.putfield 35, 3) := by decide +kernel
theorem dX7_init_72 : decode cX7_init 72 = .ok (.aload_n 0, 1) := by decide +kernel
theorem dX7_init_73 : decode cX7_init 73 = .ok (.iconst 4, 1) := by decide +kernel
theorem dX7_init_74 : decode cX7_init 74 = .ok (.newarray .int, 2) := by decide +kernel
theorem dX7_init_76 : decode cX7_init 76 = .ok (.putfield 39, 3) := by decide +kernel
theorem dX7_init_79 : decode cX7_init 79 = .ok (.aload_n 0, 1) := by decide +kernel
theorem dX7_init_80 : decode cX7_init 80 = .ok (.iconst 4, 1) := by decide +kernel
theorem dX7_init_81 : decode cX7_init 81 = .ok (.newarray .int, 2) := by decide +kernel
theorem dX7_init_83 : decode cX7_init 83 = .ok (.putfield 42, 3) := by decide +kernel
theorem dX7_init_86 : decode cX7_init 86 = .ok (.aload_n 0, 1) := by decide +kernel
theorem dX7_init_87 : decode cX7_init 87 = .ok (.sipush 1200, 3) := by decide +kernel
theorem dX7_init_90 : decode cX7_init 90 = .ok (.newarray .int, 2) := by decide +kernel
theorem dX7_init_92 : decode cX7_init 92 = .ok (.putfield 45, 3) := by decide +kernel
theorem dX7_init_95 : decode cX7_init 95 = .ok (.aload_n 0, 1) := by decide +kernel
theorem dX7_init_96 : decode cX7_init 96 = .ok (.sipush 300, 3) := by decide +kernel
theorem dX7_init_99 : decode cX7_init 99 = .ok (.newarray .int, 2) := by decide +kernel
theorem dX7_init_101 : decode cX7_init 101 = .ok (.putfield 48, 3) := by decide +kernel
theorem dX7_init_104 : decode cX7_init 104 = .ok (.return_, 1) := by decide +kernel
theorem dX7_in_0 : decode cX7_in 0 = .ok (.iload_n 0, 1) := by decide +kernel
theorem dX7_in_1 : decode cX7_in 1 = .ok (.iload_n 1, 1) := by decide +kernel
theorem dX7_in_2 : decode cX7_in 2 = .ok (.if_icmp .lt 12, 3) := by decide +kernel
theorem dX7_in_5 : decode cX7_in 5 = .ok (.iload_n 0, 1) := by decide +kernel
theorem dX7_in_6 : decode cX7_in 6 = .ok (.iload_n 2, 1) := by decide +kernel
theorem dX7_in_7 : decode cX7_in 7 = .ok (.if_icmp .gt 7, 3) := by decide +kernel
theorem dX7_in_10 : decode cX7_in 10 = .ok (.iconst 1, 1) := by decide +kernel
theorem dX7_in_11 : decode cX7_in 11 = .ok (.goto 4, 3) := by decide +kernel
theorem dX7_in_14 : decode cX7_in 14 = .ok (.iconst 0, 1) := by decide +kernel
theorem dX7_in_15 : decode cX7_in 15 = .ok (.ireturn, 1) := by decide +kernel
set_option maxRecDepth 20000 in
theorem ggX7_isRow_X7_in : GoodIn wsX7_isRow wsX7_in := goodIn_r _ [4] (by decide +kernel) (by decide +kernel)
set_option maxRecDepth 20000 in
theorem gX7_isRow_X7_in : GoodIn wsX7_isRow (va_wsS RX7 51 yX7_in wsX7_in) := goodIn_app (goodIn_of _ (by decide +kernel)) ggX7_isRow_X7_in
theorem dX7_isRow_0 : decode cX7_isRow 0 = .ok (.iload_n 0, 1) := by decide +kernel
theorem dX7_isRow_1 : decode cX7_isRow 1 = .ok (.iconst 0, 1) := by decide +kernel
theorem dX7_isRow_2 : decode cX7_isRow 2 = .ok (.bipush 7, 2) := by decide +kernel
theorem dX7_isRow_4 : decode cX7_isRow 4 = .ok (.invokestatic 51, 3) := by decide +kernel
theorem dX7_isRow_7 : decode cX7_isRow 7 = .ok (.ireturn, 1) := by decide +kernel
set_option maxRecDepth 20000 in
theorem ggX7_isShift_X7_in : GoodIn wsX7_isShift wsX7_in := goodIn_r _ [4] (by decide +kernel) (by decide +kernel)
set_option maxRecDepth 20000 in
theorem gX7_isShift_X7_in : GoodIn wsX7_isShift (va_wsS RX7 51 yX7_in wsX7_in) := goodIn_app (goodIn_of _ (by decide +kernel)) ggX7_isShift_X7_in
theorem dX7_isShift_0 : decode cX7_isShift 0 = .ok (.iload_n 0, 1) := by decide +kernel
theorem dX7_isShift_1 : decode cX7_isShift 1 = .ok (.iconst 0, 1) := by decide +kernel
theorem dX7_isShift_2 : decode cX7_isShift 2 = .ok (.bipush 126, 2) := by decide +kernel
theorem dX7_isShift_4 : decode cX7_isShift 4 = .ok (.invokestatic 51, 3) := by decide +kernel
theorem dX7_isShift_7 : decode cX7_isShift 7 = .ok (.ireturn, 1) := by decide +kernel
theorem dX7_signOf_0 : decode cX7_signOf 0 = .ok (.aload_n 0, 1) := by decide +kernel
theorem dX7_signOf_1 : decode cX7_signOf 1 = .ok (.getfield 13, 3) := by decide +kernel
theorem dX7_signOf_4 : decode cX7_signOf 4 = .ok (.bipush 127, 2) := by decide +kernel
theorem dX7_signOf_6 : decode cX7_signOf 6 = .ok (.iload_n 1, 1) := by decide +kernel
theorem dX7_signOf_7 : decode cX7_signOf 7 = .ok (.imul, 1) := by decide +kernel
theorem dX7_signOf_8 : decode cX7_signOf 8 = .ok (.iload_n 2, 1) := by decide +kernel
theorem dX7_signOf_9 : decode cX7_signOf 9 = .ok (.aload_n 0, 1) := by decide +kernel
theorem dX7_signOf_10 : decode cX7_signOf 10 = .ok (.getfield 7, 3) := by decide +kernel
theorem dX7_signOf_13 : decode cX7_signOf 13 = .ok (.iload_n 1, 1) := by decide +kernel
theorem dX7_signOf_14 : decode cX7_signOf 14 = .ok (.iaload, 1) := by decide +kernel
theorem dX7_signOf_15 : decode cX7_signOf 15 = .ok (.irem, 1) := by decide +kernel
theorem dX7_signOf_16 : decode cX7_signOf 16 = .ok (.iadd, 1) := by decide +kernel
theorem dX7_signOf_17 : decode cX7_signOf 17 = .ok (.iaload, 1) := by decide +kernel
theorem dX7_signOf_18 : decode cX7_signOf 18 = .ok (.ireturn, 1) := by decide +kernel
theorem dX7_keeps_0 : decode cX7_keeps 0 = .ok (.aload_n 0, 1) := by decide +kernel
theorem dX7_keeps_1 : decode cX7_keeps 1 = .ok (.getfield 7, 3) := by decide +kernel
theorem dX7_keeps_4 : decode cX7_keeps 4 = .ok (.iload_n 1, 1) := by decide +kernel
theorem dX7_keeps_5 : decode cX7_keeps 5 = .ok (.iload_n 2, 1) := by decide +kernel
theorem dX7_keeps_6 : decode cX7_keeps 6 = .ok (.iastore, 1) := by decide +kernel
theorem dX7_keeps_7 : decode cX7_keeps 7 = .ok (.iconst 0, 1) := by decide +kernel
theorem dX7_keeps_8 : decode cX7_keeps 8 = .ok (.istore_n 3, 1) := by decide +kernel
theorem dX7_keeps_9 : decode cX7_keeps 9 = .ok (.iload_n 3, 1) := by decide +kernel
theorem dX7_keeps_10 : decode cX7_keeps 10 = .ok (.iload_n 2, 1) := by decide +kernel
theorem dX7_keeps_11 : decode cX7_keeps 11 = .ok (.if_icmp .ge 26, 3) := by decide +kernel
theorem dX7_keeps_14 : decode cX7_keeps 14 = .ok (.aload_n 0, 1) := by decide +kernel
theorem dX7_keeps_15 : decode cX7_keeps 15 = .ok (.getfield 13, 3) := by decide +kernel
theorem dX7_keeps_18 : decode cX7_keeps 18 = .ok (.bipush 127, 2) := by decide +kernel
theorem dX7_keeps_20 : decode cX7_keeps 20 = .ok (.iload_n 1, 1) := by decide +kernel
theorem dX7_keeps_21 : decode cX7_keeps 21 = .ok (.imul, 1) := by decide +kernel
theorem dX7_keeps_22 : decode cX7_keeps 22 = .ok (.iload_n 3, 1) := by decide +kernel
theorem dX7_keeps_23 : decode cX7_keeps 23 = .ok (.iadd, 1) := by decide +kernel
theorem dX7_keeps_24 : decode cX7_keeps 24 = .ok (.aload_n 0, 1) := by decide +kernel
theorem dX7_keeps_25 : decode cX7_keeps 25 = .ok (.getfield 16, 3) := by decide +kernel
theorem dX7_keeps_28 : decode cX7_keeps 28 = .ok (.iload_n 3, 1) := by decide +kernel
theorem dX7_keeps_29 : decode cX7_keeps 29 = .ok (.iaload, 1) := by decide +kernel
theorem dX7_keeps_30 : decode cX7_keeps 30 = .ok (.iastore, 1) := by decide +kernel
theorem dX7_keeps_31 : decode cX7_keeps 31 = .ok (.iinc 3 1, 3) := by decide +kernel
theorem dX7_keeps_34 : decode cX7_keeps 34 = .ok (.goto (-25), 3) := by decide +kernel
theorem dX7_keeps_37 : decode cX7_keeps 37 = .ok (.return_, 1) := by decide +kernel
set_option maxRecDepth 20000 in
theorem ggX7_isRegister_X7_in : GoodIn wsX7_isRegister wsX7_in := goodIn_r _ [4] (by decide +kernel) (by decide +kernel)
set_option maxRecDepth 20000 in
theorem gX7_isRegister_X7_in : GoodIn wsX7_isRegister (va_wsS RX7 51 yX7_in wsX7_in) := goodIn_app (goodIn_of _ (by decide +kernel)) ggX7_isRegister_X7_in
theorem dX7_isRegister_0 : decode cX7_isRegister 0 = .ok (.iload_n 0, 1) := by decide +kernel
theorem dX7_isRegister_1 : decode cX7_isRegister 1 = .ok (.iconst 2, 1) := by decide +kernel
theorem dX7_isRegister_2 : decode cX7_isRegister 2 = .ok (.bipush 7, 2) := by decide +kernel
theorem dX7_isRegister_4 : decode cX7_isRegister 4 = .ok (.invokestatic 51, 3) := by decide +kernel
theorem dX7_isRegister_7 : decode cX7_isRegister 7 = .ok (.ifCond .eq 40, 3) := by decide +kernel
theorem dX7_isRegister_10 : decode cX7_isRegister 10 = .ok (.iload_n 1, 1) := by decide +kernel
theorem dX7_isRegister_11 : decode cX7_isRegister 11 = .ok (.iconst 1, 1) := by decide +kernel
theorem dX7_isRegister_12 : decode cX7_isRegister 12 = .ok (.iconst 1, 1) := by decide +kernel
theorem dX7_isRegister_13 : decode cX7_isRegister 13 = .ok (.iload_n 0, 1) := by decide +kernel
theorem dX7_isRegister_14 : decode cX7_isRegister 14 = .ok (.ishl, 1) := by decide +kernel
theorem dX7_isRegister_15 : decode cX7_isRegister 15 = .ok (.iconst 1, 1) := by decide +kernel
theorem dX7_isRegister_16 : decode cX7_isRegister 16 = .ok (.isub, 1) := by decide +kernel
theorem dX7_isRegister_17 : decode cX7_isRegister 17 = .ok (.invokestatic 51, 3) := by decide +kernel
theorem dX7_isRegister_20 : decode cX7_isRegister 20 = .ok (.ifCond .eq 27, 3) := by decide +kernel
theorem dX7_isRegister_23 : decode cX7_isRegister 23 = .ok (.iload_n 1, 1) := by decide +kernel
theorem dX7_isRegister_24 : decode cX7_isRegister 24 = .ok (.iconst 2, 1) := by decide +kernel
theorem dX7_isRegister_25 : decode cX7_isRegister 25 = .ok (.irem, 1) := by decide +kernel
theorem dX7_isRegister_26 : decode cX7_isRegister 26 = .ok (.iconst 1, 1) := by decide +kernel
theorem dX7_isRegister_27 : decode cX7_isRegister 27 = .ok (.if_icmp .ne 20, 3) := by decide +kernel
theorem dX7_isRegister_30 : decode cX7_isRegister 30 = .ok (.iload_n 2, 1) := by decide +kernel
theorem dX7_isRegister_31 : decode cX7_isRegister 31 = .ok (.iconst 1, 1) := by decide +kernel
theorem dX7_isRegister_32 : decode cX7_isRegister 32 = .ok (.iconst 1, 1) := by decide +kernel
theorem dX7_isRegister_33 : decode cX7_isRegister 33 = .ok (.iload_n 0, 1) := by decide +kernel
theorem dX7_isRegister_34 : decode cX7_isRegister 34 = .ok (.ishl, 1) := by decide +kernel
theorem dX7_isRegister_35 : decode cX7_isRegister 35 = .ok (.iconst 1, 1) := by decide +kernel
theorem dX7_isRegister_36 : decode cX7_isRegister 36 = .ok (.isub, 1) := by decide +kernel
theorem dX7_isRegister_37 : decode cX7_isRegister 37 = .ok (.invokestatic 51, 3) := by decide +kernel
theorem dX7_isRegister_40 : decode cX7_isRegister 40 = .ok (.ifCond .eq 7, 3) := by decide +kernel
theorem dX7_isRegister_43 : decode cX7_isRegister 43 = .ok (.iconst 1, 1) := by decide +kernel
theorem dX7_isRegister_44 : decode cX7_isRegister 44 = .ok (.goto 4, 3) := by decide +kernel
theorem dX7_isRegister_47 : decode cX7_isRegister 47 = .ok (.iconst 0, 1) := by decide +kernel
theorem dX7_isRegister_48 : decode cX7_isRegister 48 = .ok (.ireturn, 1) := by decide +kernel
theorem dX7_next_0 : decode cX7_next 0 = .ok (.iconst 0, 1) := by decide +kernel
theorem dX7_next_1 : decode cX7_next 1 = .ok (.istore_n 3, 1) := by decide +kernel
theorem dX7_next_2 : decode cX7_next 2 = .ok (.iconst 0, 1) := by decide +kernel
theorem dX7_next_3 : decode cX7_next 3 = .ok (.istore 4, 2) := by decide +kernel
theorem dX7_next_5 : decode cX7_next 5 = .ok (.iload 4, 2) := by decide +kernel
theorem dX7_next_7 : decode cX7_next 7 = .ok (.iload_n 0, 1) := by decide +kernel
theorem dX7_next_8 : decode cX7_next 8 = .ok (.if_icmp .ge 20, 3) := by decide +kernel
theorem dX7_next_11 : decode cX7_next 11 = .ok (.iload_n 3, 1) := by decide +kernel
theorem dX7_next_12 : decode cX7_next 12 = .ok (.iload_n 2, 1) := by decide +kernel
theorem dX7_next_13 : decode cX7_next 13 = .ok (.iload_n 1, 1) := by decide +kernel
theorem dX7_next_14 : decode cX7_next 14 = .ok (.iand, 1) := by decide +kernel
theorem dX7_next_15 : decode cX7_next 15 = .ok (.iload 4, 2) := by decide +kernel
theorem dX7_next_17 : decode cX7_next 17 = .ok (.ishr, 1) := by decide +kernel
theorem dX7_next_18 : decode cX7_next 18 = .ok (.iconst 1, 1) := by decide +kernel
theorem dX7_next_19 : decode cX7_next 19 = .ok (.iand, 1) := by decide +kernel
theorem dX7_next_20 : decode cX7_next 20 = .ok (.ixor, 1) := by decide +kernel
theorem dX7_next_21 : decode cX7_next 21 = .ok (.istore_n 3, 1) := by decide +kernel
theorem dX7_next_22 : decode cX7_next 22 = .ok (.iinc 4 1, 3) := by decide +kernel
theorem dX7_next_25 : decode cX7_next 25 = .ok (.goto (-20), 3) := by decide +kernel
theorem dX7_next_28 : decode cX7_next 28 = .ok (.iload_n 2, 1) := by decide +kernel
theorem dX7_next_29 : decode cX7_next 29 = .ok (.iconst 1, 1) := by decide +kernel
theorem dX7_next_30 : decode cX7_next 30 = .ok (.ishr, 1) := by decide +kernel
theorem dX7_next_31 : decode cX7_next 31 = .ok (.iload_n 3, 1) := by decide +kernel
theorem dX7_next_32 : decode cX7_next 32 = .ok (.iload_n 0, 1) := by decide +kernel
theorem dX7_next_33 : decode cX7_next 33 = .ok (.iconst 1, 1) := by decide +kernel
theorem dX7_next_34 : decode cX7_next 34 = .ok (.isub, 1) := by decide +kernel
theorem dX7_next_35 : decode cX7_next 35 = .ok (.ishl, 1) := by decide +kernel
theorem dX7_next_36 : decode cX7_next 36 = .ok (.ior, 1) := by decide +kernel
theorem dX7_next_37 : decode cX7_next 37 = .ok (.ireturn, 1) := by decide +kernel
set_option maxRecDepth 20000 in
theorem ggX7_make_X7_isRow : GoodIn wsX7_make wsX7_isRow := goodIn_r _ [5, 6, 7, 4, 8] (by decide +kernel) (by decide +kernel)
set_option maxRecDepth 20000 in
theorem gX7_make_X7_isRow : GoodIn wsX7_make (va_wsS RX7 55 yX7_isRow wsX7_isRow) := goodIn_app (goodIn_of _ (by decide +kernel)) ggX7_make_X7_isRow
set_option maxRecDepth 20000 in
theorem ggX7_make_X7_isRegister : GoodIn wsX7_make wsX7_isRegister := goodIn_r _ [11, 6, 7, 4, 8] (by decide +kernel) (by decide +kernel)
set_option maxRecDepth 20000 in
theorem gX7_make_X7_isRegister : GoodIn wsX7_make (va_wsS RX7 59 yX7_isRegister wsX7_isRegister) := goodIn_app (goodIn_of _ (by decide +kernel)) ggX7_make_X7_isRegister
set_option maxRecDepth 20000 in
theorem ggX7_make_X7_next : GoodIn wsX7_make wsX7_next := goodIn_r _ [14] (by decide +kernel) (by decide +kernel)
set_option maxRecDepth 20000 in
theorem gX7_make_X7_next : GoodIn wsX7_make (va_wsS RX7 62 yX7_next wsX7_next) := goodIn_app (goodIn_of _ (by decide +kernel)) ggX7_make_X7_next
set_option maxRecDepth 20000 in
theorem ggX7_make_X7_keeps : GoodIn wsX7_make wsX7_keeps := goodIn_r _ [18, 19, 20, 1, 21, 22, 23, 24, 25, 26, 27, 28, 29, 30, 31, 32, 33, 34, 35, 36, 37, 38, 39] (by decide +kernel) (by decide +kernel)
set_option maxRecDepth 20000 in
theorem gX7_make_X7_keeps : GoodIn wsX7_make (wsV RX7 66 RX7 yX7_keeps wsX7_keeps) := goodIn_app (goodIn_of _ (by decide +kernel)) ggX7_make_X7_keeps
theorem dX7_make_0 : decode cX7_make 0 = .ok (.iload_n 1, 1) := by decide +kernel
theorem dX7_make_1 : decode cX7_make 1 = .ok (.invokestatic 55, 3) := by decide +kernel
theorem dX7_make_4 : decode cX7_make 4 = .ok (.ifCond .eq 13, 3) := by decide +kernel
theorem dX7_make_7 : decode cX7_make 7 = .ok (.iload_n 2, 1) := by decide +kernel
theorem dX7_make_8 : decode cX7_make 8 = .ok (.iload_n 3, 1) := by decide +kernel
theorem dX7_make_9 : decode cX7_make 9 = .ok (.iload 4, 2) := by decide +kernel
theorem dX7_make_11 : decode cX7_make 11 = .ok (.invokestatic 59, 3) := by decide +kernel
theorem dX7_make_14 : decode cX7_make 14 = .ok (.ifCond .ne 6, 3) := by decide +kernel
theorem dX7_make_17 : decode cX7_make 17 = .ok (.bipush (-2), 2) := by decide +kernel
theorem dX7_make_19 : decode cX7_make 19 = .ok (.ireturn, 1) := by decide +kernel
theorem dX7_make_20 : decode cX7_make 20 = .ok (.iload 4, 2) := by decide +kernel
theorem dX7_make_22 : decode cX7_make 22 = .ok (.istore 5, 2) := by decide +kernel
theorem dX7_make_24 : decode cX7_make 24 = .ok (.iconst 1, 1) := by decide +kernel
theorem dX7_make_25 : decode cX7_make 25 = .ok (.iload_n 2, 1) := by decide +kernel
theorem dX7_make_26 : decode cX7_make 26 = .ok (.ishl, 1) := by decide +kernel
theorem dX7_make_27 : decode cX7_make 27 = .ok (.iconst 1, 1) := by decide +kernel
theorem dX7_make_28 : decode cX7_make 28 = .ok (.isub, 1) := by decide +kernel
theorem dX7_make_29 : decode cX7_make 29 = .ok (.istore 6, 2) := by decide +kernel
theorem dX7_make_31 : decode cX7_make 31 = .ok (.iconst 0, 1) := by decide +kernel
theorem dX7_make_32 : decode cX7_make 32 = .ok (.istore 7, 2) := by decide +kernel
theorem dX7_make_34 : decode cX7_make 34 = .ok (.iload 7, 2) := by decide +kernel
theorem dX7_make_36 : decode cX7_make 36 = .ok (.iload 6, 2) := by decide +kernel
theorem dX7_make_38 : decode cX7_make 38 = .ok (.if_icmp .ge 38, 3) := by decide +kernel
theorem dX7_make_41 : decode cX7_make 41 = .ok (.aload_n 0, 1) := by decide +kernel
theorem dX7_make_42 : decode cX7_make 42 = .ok (.getfield 16, 3) := by decide +kernel
theorem dX7_make_45 : decode cX7_make 45 = .ok (.iload 7, 2) := by decide +kernel
theorem dX7_make_47 : decode cX7_make 47 = .ok (.iload 5, 2) := by decide +kernel
theorem dX7_make_49 : decode cX7_make 49 = .ok (.iconst 2, 1) := by decide +kernel
theorem dX7_make_50 : decode cX7_make 50 = .ok (.irem, 1) := by decide +kernel
theorem dX7_make_51 : decode cX7_make 51 = .ok (.iconst 1, 1) := by decide +kernel
theorem dX7_make_52 : decode cX7_make 52 = .ok (.if_icmp .ne 7, 3) := by decide +kernel
theorem dX7_make_55 : decode cX7_make 55 = .ok (.iconst (-1), 1) := by decide +kernel
theorem dX7_make_56 : decode cX7_make 56 = .ok (.goto 4, 3) := by decide +kernel
theorem dX7_make_59 : decode cX7_make 59 = .ok (.iconst 1, 1) := by decide +kernel
theorem dX7_make_60 : decode cX7_make 60 = .ok (.iastore, 1) := by decide +kernel
theorem dX7_make_61 : decode cX7_make 61 = .ok (.iload_n 2, 1) := by decide +kernel
theorem dX7_make_62 : decode cX7_make 62 = .ok (.iload_n 3, 1) := by decide +kernel
theorem dX7_make_63 : decode cX7_make 63 = .ok (.iload 5, 2) := by decide +kernel
theorem dX7_make_65 : decode cX7_make 65 = .ok (.invokestatic 62, 3) := by decide +kernel
theorem dX7_make_68 : decode cX7_make 68 = .ok (.istore 5, 2) := by decide +kernel
theorem dX7_make_70 : decode cX7_make 70 = .ok (.iinc 7 1, 3) := by decide +kernel
theorem dX7_make_73 : decode cX7_make 73 = .ok (.goto (-39), 3) := by decide +kernel
theorem dX7_make_76 : decode cX7_make 76 = .ok (.aload_n 0, 1) := by decide +kernel
theorem dX7_make_77 : decode cX7_make 77 = .ok (.iload_n 1, 1) := by decide +kernel
theorem dX7_make_78 : decode cX7_make 78 = .ok (.iload 6, 2) := by decide +kernel
theorem dX7_make_80 : decode cX7_make 80 = .ok (.invokevirtual 66, 3) := by decide +kernel
theorem dX7_make_83 : decode cX7_make 83 = .ok (.iload 6, 2) := by decide +kernel
theorem dX7_make_85 : decode cX7_make 85 = .ok (.ireturn, 1) := by decide +kernel
set_option maxRecDepth 20000 in
theorem ggX7_periodOf_X7_next : GoodIn wsX7_periodOf wsX7_next := goodIn_r _ [4] (by decide +kernel) (by decide +kernel)
set_option maxRecDepth 20000 in
theorem gX7_periodOf_X7_next : GoodIn wsX7_periodOf (va_wsS RX7 62 yX7_next wsX7_next) := goodIn_app (goodIn_of _ (by decide +kernel)) ggX7_periodOf_X7_next
theorem dX7_periodOf_0 : decode cX7_periodOf 0 = .ok (.iload_n 0, 1) := by decide +kernel
theorem dX7_periodOf_1 : decode cX7_periodOf 1 = .ok (.iload_n 1, 1) := by decide +kernel
theorem dX7_periodOf_2 : decode cX7_periodOf 2 = .ok (.iload_n 2, 1) := by decide +kernel
theorem dX7_periodOf_3 : decode cX7_periodOf 3 = .ok (.invokestatic 62, 3) := by decide +kernel
theorem dX7_periodOf_6 : decode cX7_periodOf 6 = .ok (.istore_n 3, 1) := by decide +kernel
theorem dX7_periodOf_7 : decode cX7_periodOf 7 = .ok (.iconst 1, 1) := by decide +kernel
theorem dX7_periodOf_8 : decode cX7_periodOf 8 = .ok (.istore 4, 2) := by decide +kernel
theorem dX7_periodOf_10 : decode cX7_periodOf 10 = .ok (.iload_n 3, 1) := by decide +kernel
theorem dX7_periodOf_11 : decode cX7_periodOf 11 = .ok (.iload_n 2, 1) := by decide +kernel
theorem dX7_periodOf_12 : decode cX7_periodOf 12 = .ok (.if_icmp .eq 16, 3) := by decide +kernel
theorem dX7_periodOf_15 : decode cX7_periodOf 15 = .ok (.iload_n 0, 1) := by decide +kernel
theorem dX7_periodOf_16 : decode cX7_periodOf 16 = .ok (.iload_n 1, 1) := by decide +kernel
theorem dX7_periodOf_17 : decode cX7_periodOf 17 = .ok (.iload_n 3, 1) := by decide +kernel
theorem dX7_periodOf_18 : decode cX7_periodOf 18 = .ok (.invokestatic 62, 3) := by decide +kernel
theorem dX7_periodOf_21 : decode cX7_periodOf 21 = .ok (.istore_n 3, 1) := by decide +kernel
theorem dX7_periodOf_22 : decode cX7_periodOf 22 = .ok (.iinc 4 1, 3) := by decide +kernel
theorem dX7_periodOf_25 : decode cX7_periodOf 25 = .ok (.goto (-15), 3) := by decide +kernel
theorem dX7_periodOf_28 : decode cX7_periodOf 28 = .ok (.iload 4, 2) := by decide +kernel
theorem dX7_periodOf_30 : decode cX7_periodOf 30 = .ok (.ireturn, 1) := by decide +kernel
set_option maxRecDepth 20000 in
theorem ggX7_period_X7_isRegister : GoodIn wsX7_period wsX7_isRegister := goodIn_r _ [4, 5, 6, 3, 7] (by decide +kernel) (by decide +kernel)
set_option maxRecDepth 20000 in
theorem gX7_period_X7_isRegister : GoodIn wsX7_period (va_wsS RX7 59 yX7_isRegister wsX7_isRegister) := goodIn_app (goodIn_of _ (by decide +kernel)) ggX7_period_X7_isRegister
set_option maxRecDepth 20000 in
theorem ggX7_period_X7_periodOf : GoodIn wsX7_period wsX7_periodOf := goodIn_r _ [10, 11, 12, 3, 13] (by decide +kernel) (by decide +kernel)
set_option maxRecDepth 20000 in
theorem gX7_period_X7_periodOf : GoodIn wsX7_period (va_wsS RX7 70 yX7_periodOf wsX7_periodOf) := goodIn_app (goodIn_of _ (by decide +kernel)) ggX7_period_X7_periodOf
theorem dX7_period_0 : decode cX7_period 0 = .ok (.iload_n 1, 1) := by decide +kernel
theorem dX7_period_1 : decode cX7_period 1 = .ok (.iload_n 2, 1) := by decide +kernel
theorem dX7_period_2 : decode cX7_period 2 = .ok (.iload_n 3, 1) := by decide +kernel
theorem dX7_period_3 : decode cX7_period 3 = .ok (.invokestatic 59, 3) := by decide +kernel
theorem dX7_period_6 : decode cX7_period 6 = .ok (.ifCond .eq 12, 3) := by decide +kernel
theorem dX7_period_9 : decode cX7_period 9 = .ok (.iload_n 1, 1) := by decide +kernel
theorem dX7_period_10 : decode cX7_period 10 = .ok (.iload_n 2, 1) := by decide +kernel
theorem dX7_period_11 : decode cX7_period 11 = .ok (.iload_n 3, 1) := by decide +kernel
theorem dX7_period_12 : decode cX7_period 12 = .ok (.invokestatic 70, 3) := by decide +kernel
theorem dX7_period_15 : decode cX7_period 15 = .ok (.goto 5, 3) := by decide +kernel
theorem dX7_period_18 : decode cX7_period 18 = .ok (.bipush (-2), 2) := by decide +kernel
theorem dX7_period_20 : decode cX7_period 20 = .ok (.ireturn, 1) := by decide +kernel
set_option maxRecDepth 20000 in
theorem ggX7_full_X7_in : GoodIn wsX7_full wsX7_in := goodIn_r _ [4] (by decide +kernel) (by decide +kernel)
set_option maxRecDepth 20000 in
theorem gX7_full_X7_in : GoodIn wsX7_full (va_wsS RX7 51 yX7_in wsX7_in) := goodIn_app (goodIn_of _ (by decide +kernel)) ggX7_full_X7_in
set_option maxRecDepth 20000 in
theorem ggX7_full_X7_periodOf : GoodIn wsX7_full wsX7_periodOf := goodIn_r _ [7, 8, 9, 3, 10] (by decide +kernel) (by decide +kernel)
set_option maxRecDepth 20000 in
theorem gX7_full_X7_periodOf : GoodIn wsX7_full (va_wsS RX7 70 yX7_periodOf wsX7_periodOf) := goodIn_app (goodIn_of _ (by decide +kernel)) ggX7_full_X7_periodOf
theorem dX7_full_0 : decode cX7_full 0 = .ok (.iload_n 1, 1) := by decide +kernel
theorem dX7_full_1 : decode cX7_full 1 = .ok (.iconst 2, 1) := by decide +kernel
theorem dX7_full_2 : decode cX7_full 2 = .ok (.bipush 7, 2) := by decide +kernel
theorem dX7_full_4 : decode cX7_full 4 = .ok (.invokestatic 51, 3) := by decide +kernel
theorem dX7_full_7 : decode cX7_full 7 = .ok (.ifCond .ne 6, 3) := by decide +kernel
theorem dX7_full_10 : decode cX7_full 10 = .ok (.bipush (-2), 2) := by decide +kernel
theorem dX7_full_12 : decode cX7_full 12 = .ok (.ireturn, 1) := by decide +kernel
theorem dX7_full_13 : decode cX7_full 13 = .ok (.iconst 0, 1) := by decide +kernel
theorem dX7_full_14 : decode cX7_full 14 = .ok (.istore_n 2, 1) := by decide +kernel
theorem dX7_full_15 : decode cX7_full 15 = .ok (.iconst 1, 1) := by decide +kernel
theorem dX7_full_16 : decode cX7_full 16 = .ok (.istore_n 3, 1) := by decide +kernel
theorem dX7_full_17 : decode cX7_full 17 = .ok (.iload_n 3, 1) := by decide +kernel
theorem dX7_full_18 : decode cX7_full 18 = .ok (.iconst 1, 1) := by decide +kernel
theorem dX7_full_19 : decode cX7_full 19 = .ok (.iload_n 1, 1) := by decide +kernel
theorem dX7_full_20 : decode cX7_full 20 = .ok (.ishl, 1) := by decide +kernel
theorem dX7_full_21 : decode cX7_full 21 = .ok (.if_icmp .ge 31, 3) := by decide +kernel
theorem dX7_full_24 : decode cX7_full 24 = .ok (.iload_n 2, 1) := by decide +kernel
theorem dX7_full_25 : decode cX7_full 25 = .ok (.iload_n 1, 1) := by decide +kernel
theorem dX7_full_26 : decode cX7_full 26 = .ok (.iload_n 3, 1) := by decide +kernel
theorem dX7_full_27 : decode cX7_full 27 = .ok (.iconst 1, 1) := by decide +kernel
theorem dX7_full_28 : decode cX7_full 28 = .ok (.invokestatic 70, 3) := by decide +kernel
theorem dX7_full_31 : decode cX7_full 31 = .ok (.iconst 1, 1) := by decide +kernel
theorem dX7_full_32 : decode cX7_full 32 = .ok (.iload_n 1, 1) := by decide +kernel
theorem dX7_full_33 : decode cX7_full 33 = .ok (.ishl, 1) := by decide +kernel
theorem dX7_full_34 : decode cX7_full 34 = .ok (.iconst 1, 1) := by decide +kernel
theorem dX7_full_35 : decode cX7_full 35 = .ok (.isub, 1) := by decide +kernel
theorem dX7_full_36 : decode cX7_full 36 = .ok (.if_icmp .ne 7, 3) := by decide +kernel
theorem dX7_full_39 : decode cX7_full 39 = .ok (.iconst 1, 1) := by decide +kernel
theorem dX7_full_40 : decode cX7_full 40 = .ok (.goto 4, 3) := by decide +kernel
theorem dX7_full_43 : decode cX7_full 43 = .ok (.iconst 0, 1) := by decide +kernel
theorem dX7_full_44 : decode cX7_full 44 = .ok (.iadd, 1) := by decide +kernel
theorem dX7_full_45 : decode cX7_full 45 = .ok (.istore_n 2, 1) := by decide +kernel
theorem dX7_full_46 : decode cX7_full 46 = .ok (.iinc 3 2, 3) := by decide +kernel
theorem dX7_full_49 : decode cX7_full 49 = .ok (.goto (-32), 3) := by decide +kernel
theorem dX7_full_52 : decode cX7_full 52 = .ok (.iload_n 2, 1) := by decide +kernel
theorem dX7_full_53 : decode cX7_full 53 = .ok (.ireturn, 1) := by decide +kernel
theorem dX7_arePair_0 : decode cX7_arePair 0 = .ok (.aload_n 0, 1) := by decide +kernel
theorem dX7_arePair_1 : decode cX7_arePair 1 = .ok (.getfield 7, 3) := by decide +kernel
theorem dX7_arePair_4 : decode cX7_arePair 4 = .ok (.iload_n 1, 1) := by decide +kernel
theorem dX7_arePair_5 : decode cX7_arePair 5 = .ok (.iaload, 1) := by decide +kernel
theorem dX7_arePair_6 : decode cX7_arePair 6 = .ok (.ifCond .le 22, 3) := by decide +kernel
theorem dX7_arePair_9 : decode cX7_arePair 9 = .ok (.aload_n 0, 1) := by decide +kernel
theorem dX7_arePair_10 : decode cX7_arePair 10 = .ok (.getfield 7, 3) := by decide +kernel
theorem dX7_arePair_13 : decode cX7_arePair 13 = .ok (.iload_n 1, 1) := by decide +kernel
theorem dX7_arePair_14 : decode cX7_arePair 14 = .ok (.iaload, 1) := by decide +kernel
theorem dX7_arePair_15 : decode cX7_arePair 15 = .ok (.aload_n 0, 1) := by decide +kernel
theorem dX7_arePair_16 : decode cX7_arePair 16 = .ok (.getfield 7, 3) := by decide +kernel
theorem dX7_arePair_19 : decode cX7_arePair 19 = .ok (.iload_n 2, 1) := by decide +kernel
theorem dX7_arePair_20 : decode cX7_arePair 20 = .ok (.iaload, 1) := by decide +kernel
theorem dX7_arePair_21 : decode cX7_arePair 21 = .ok (.if_icmp .ne 7, 3) := by decide +kernel
theorem dX7_arePair_24 : decode cX7_arePair 24 = .ok (.iconst 1, 1) := by decide +kernel
theorem dX7_arePair_25 : decode cX7_arePair 25 = .ok (.goto 4, 3) := by decide +kernel
theorem dX7_arePair_28 : decode cX7_arePair 28 = .ok (.iconst 0, 1) := by decide +kernel
theorem dX7_arePair_29 : decode cX7_arePair 29 = .ok (.ireturn, 1) := by decide +kernel
set_option maxRecDepth 20000 in
theorem ggX7_join_X7_isRow : GoodIn wsX7_join wsX7_isRow := goodIn_r _ [6, 7, 8, 5, 9] (by decide +kernel) (by decide +kernel)
set_option maxRecDepth 20000 in
theorem gX7_join_X7_isRow : GoodIn wsX7_join (va_wsS RX7 55 yX7_isRow wsX7_isRow) := goodIn_app (goodIn_of _ (by decide +kernel)) ggX7_join_X7_isRow
set_option maxRecDepth 20000 in
theorem ggX7_join_X7_isShift : GoodIn wsX7_join wsX7_isShift := goodIn_r _ [12, 7, 8, 5, 9] (by decide +kernel) (by decide +kernel)
set_option maxRecDepth 20000 in
theorem gX7_join_X7_isShift : GoodIn wsX7_join (va_wsS RX7 73 yX7_isShift wsX7_isShift) := goodIn_app (goodIn_of _ (by decide +kernel)) ggX7_join_X7_isShift
set_option maxRecDepth 20000 in
theorem ggX7_join_X7_arePair : GoodIn wsX7_join wsX7_arePair := goodIn_r _ [16, 1, 26, 27, 28, 29, 30, 31, 32, 33, 34, 35, 36, 37, 38, 39, 40, 41, 42, 43, 44] (by decide +kernel) (by decide +kernel)
set_option maxRecDepth 20000 in
theorem gX7_join_X7_arePair : GoodIn wsX7_join (wsV RX7 76 RX7 yX7_arePair wsX7_arePair) := goodIn_app (goodIn_of _ (by decide +kernel)) ggX7_join_X7_arePair
set_option maxRecDepth 20000 in
theorem ggX7_join_X7_signOf : GoodIn wsX7_join wsX7_signOf := goodIn_r _ [20, 21, 1, 26, 27, 28, 29, 30, 31, 32, 33, 34, 35, 36, 37, 38, 39, 40, 41, 42, 43, 44] (by decide +kernel) (by decide +kernel)
set_option maxRecDepth 20000 in
theorem gX7_join_X7_signOf : GoodIn wsX7_join (wsV RX7 80 RX7 yX7_signOf wsX7_signOf) := goodIn_app (goodIn_of _ (by decide +kernel)) ggX7_join_X7_signOf
set_option maxRecDepth 20000 in
theorem ggX7_join_X7_keeps : GoodIn wsX7_join wsX7_keeps := goodIn_r _ [25, 1, 21, 2, 26, 27, 28, 29, 30, 31, 32, 33, 34, 35, 36, 37, 38, 39, 40, 41, 42, 43, 44] (by decide +kernel) (by decide +kernel)
set_option maxRecDepth 20000 in
theorem gX7_join_X7_keeps : GoodIn wsX7_join (wsV RX7 66 RX7 yX7_keeps wsX7_keeps) := goodIn_app (goodIn_of _ (by decide +kernel)) ggX7_join_X7_keeps
theorem dX7_join_0 : decode cX7_join 0 = .ok (.iload_n 1, 1) := by decide +kernel
theorem dX7_join_1 : decode cX7_join 1 = .ok (.invokestatic 55, 3) := by decide +kernel
theorem dX7_join_4 : decode cX7_join 4 = .ok (.ifCond .eq 25, 3) := by decide +kernel
theorem dX7_join_7 : decode cX7_join 7 = .ok (.iload_n 2, 1) := by decide +kernel
theorem dX7_join_8 : decode cX7_join 8 = .ok (.invokestatic 55, 3) := by decide +kernel
theorem dX7_join_11 : decode cX7_join 11 = .ok (.ifCond .eq 18, 3) := by decide +kernel
theorem dX7_join_14 : decode cX7_join 14 = .ok (.iload_n 3, 1) := by decide +kernel
theorem dX7_join_15 : decode cX7_join 15 = .ok (.invokestatic 73, 3) := by decide +kernel
theorem dX7_join_18 : decode cX7_join 18 = .ok (.ifCond .eq 11, 3) := by decide +kernel
theorem dX7_join_21 : decode cX7_join 21 = .ok (.iload 4, 2) := by decide +kernel
theorem dX7_join_23 : decode cX7_join 23 = .ok (.invokestatic 55, 3) := by decide +kernel
theorem dX7_join_26 : decode cX7_join 26 = .ok (.ifCond .ne 6, 3) := by decide +kernel
theorem dX7_join_29 : decode cX7_join 29 = .ok (.bipush (-2), 2) := by decide +kernel
theorem dX7_join_31 : decode cX7_join 31 = .ok (.ireturn, 1) := by decide +kernel
theorem dX7_join_32 : decode cX7_join 32 = .ok (.aload_n 0, 1) := by decide +kernel
theorem dX7_join_33 : decode cX7_join 33 = .ok (.iload_n 1, 1) := by decide +kernel
theorem dX7_join_34 : decode cX7_join 34 = .ok (.iload_n 2, 1) := by decide +kernel
theorem dX7_join_35 : decode cX7_join 35 = .ok (.invokevirtual 76, 3) := by decide +kernel
theorem dX7_join_38 : decode cX7_join 38 = .ok (.ifCond .ne 6, 3) := by decide +kernel
theorem dX7_join_41 : decode cX7_join 41 = .ok (.bipush (-3), 2) := by decide +kernel
theorem dX7_join_43 : decode cX7_join 43 = .ok (.ireturn, 1) := by decide +kernel
theorem dX7_join_44 : decode cX7_join 44 = .ok (.aload_n 0, 1) := by decide +kernel
theorem dX7_join_45 : decode cX7_join 45 = .ok (.getfield 7, 3) := by decide +kernel
theorem dX7_join_48 : decode cX7_join 48 = .ok (.iload_n 1, 1) := by decide +kernel
theorem dX7_join_49 : decode cX7_join 49 = .ok (.iaload, 1) := by decide +kernel
theorem dX7_join_50 : decode cX7_join 50 = .ok (.istore 5, 2) := by decide +kernel
theorem dX7_join_52 : decode cX7_join 52 = .ok (.iconst 0, 1) := by decide +kernel
theorem dX7_join_53 : decode cX7_join 53 = .ok (.istore 6, 2) := by decide +kernel
theorem dX7_join_55 : decode cX7_join 55 = .ok (.iload 6, 2) := by decide +kernel
theorem dX7_join_57 : decode cX7_join 57 = .ok (.iload 5, 2) := by decide +kernel
theorem dX7_join_59 : decode cX7_join 59 = .ok (.if_icmp .ge 33, 3) := by decide +kernel
theorem dX7_join_62 : decode cX7_join 62 = .ok (.aload_n 0, 1) := by decide +kernel
theorem dX7_join_63 : decode cX7_join 63 = .ok (.getfield 16, 3) := by decide +kernel
theorem dX7_join_66 : decode cX7_join 66 = .ok (.iload 6, 2) := by decide +kernel
theorem dX7_join_68 : decode cX7_join 68 = .ok (.aload_n 0, 1) := by decide +kernel
theorem dX7_join_69 : decode cX7_join 69 = .ok (.iload_n 1, 1) := by decide +kernel
theorem dX7_join_70 : decode cX7_join 70 = .ok (.iload 6, 2) := by decide +kernel
theorem dX7_join_72 : decode cX7_join 72 = .ok (.invokevirtual 80, 3) := by decide +kernel
theorem dX7_join_75 : decode cX7_join 75 = .ok (.aload_n 0, 1) := by decide +kernel
theorem dX7_join_76 : decode cX7_join 76 = .ok (.iload_n 2, 1) := by decide +kernel
theorem dX7_join_77 : decode cX7_join 77 = .ok (.iload 6, 2) := by decide +kernel
theorem dX7_join_79 : decode cX7_join 79 = .ok (.iload_n 3, 1) := by decide +kernel
theorem dX7_join_80 : decode cX7_join 80 = .ok (.iadd, 1) := by decide +kernel
theorem dX7_join_81 : decode cX7_join 81 = .ok (.invokevirtual 80, 3) := by decide +kernel
theorem dX7_join_84 : decode cX7_join 84 = .ok (.imul, 1) := by decide +kernel
theorem dX7_join_85 : decode cX7_join 85 = .ok (.iastore, 1) := by decide +kernel
theorem dX7_join_86 : decode cX7_join 86 = .ok (.iinc 6 1, 3) := by decide +kernel
theorem dX7_join_89 : decode cX7_join 89 = .ok (.goto (-34), 3) := by decide +kernel
theorem dX7_join_92 : decode cX7_join 92 = .ok (.aload_n 0, 1) := by decide +kernel
theorem dX7_join_93 : decode cX7_join 93 = .ok (.iload 4, 2) := by decide +kernel
theorem dX7_join_95 : decode cX7_join 95 = .ok (.iload 5, 2) := by decide +kernel
theorem dX7_join_97 : decode cX7_join 97 = .ok (.invokevirtual 66, 3) := by decide +kernel
theorem dX7_join_100 : decode cX7_join 100 = .ok (.iload 5, 2) := by decide +kernel
theorem dX7_join_102 : decode cX7_join 102 = .ok (.ireturn, 1) := by decide +kernel
set_option maxRecDepth 20000 in
theorem ggX7_load_X7_isRow : GoodIn wsX7_load wsX7_isRow := goodIn_r _ [8, 9, 10, 7, 11] (by decide +kernel) (by decide +kernel)
set_option maxRecDepth 20000 in
theorem gX7_load_X7_isRow : GoodIn wsX7_load (va_wsS RX7 55 yX7_isRow wsX7_isRow) := goodIn_app (goodIn_of _ (by decide +kernel)) ggX7_load_X7_isRow
set_option maxRecDepth 20000 in
theorem ggX7_load_X7_isReel : GoodIn wsX7_load wsX7_isReel := goodIn_r _ [14, 9, 10, 7, 11] (by decide +kernel) (by decide +kernel)
set_option maxRecDepth 20000 in
theorem gX7_load_X7_isReel : GoodIn wsX7_load (va_wsS RX7 84 yX7_isReel wsX7_isReel) := goodIn_app (goodIn_of _ (by decide +kernel)) ggX7_load_X7_isReel
set_option maxRecDepth 20000 in
theorem ggX7_load_X7_in : GoodIn wsX7_load wsX7_in := goodIn_r _ [11] (by decide +kernel) (by decide +kernel)
set_option maxRecDepth 20000 in
theorem gX7_load_X7_in : GoodIn wsX7_load (va_wsS RX7 51 yX7_in wsX7_in) := goodIn_app (goodIn_of _ (by decide +kernel)) ggX7_load_X7_in
set_option maxRecDepth 20000 in
theorem ggX7_load_X7_meets : GoodIn wsX7_load wsX7_meets := goodIn_r _ [18, 19, 26, 27, 28, 29, 30, 31, 32, 33, 34, 35, 36, 37, 38, 39, 40, 41, 42, 43, 44] (by decide +kernel) (by decide +kernel)
set_option maxRecDepth 20000 in
theorem gX7_load_X7_meets : GoodIn wsX7_load (wsV RX7 87 RX7 yX7_meets wsX7_meets) := goodIn_app (goodIn_of _ (by decide +kernel)) ggX7_load_X7_meets
set_option maxRecDepth 20000 in
theorem ggX7_load_X7_keeps : GoodIn wsX7_load wsX7_keeps := goodIn_r _ [23, 24, 25, 3, 26, 27, 28, 29, 30, 31, 32, 33, 34, 35, 36, 37, 38, 39, 40, 41, 42, 43, 44] (by decide +kernel) (by decide +kernel)
set_option maxRecDepth 20000 in
theorem gX7_load_X7_keeps : GoodIn wsX7_load (wsV RX7 66 RX7 yX7_keeps wsX7_keeps) := goodIn_app (goodIn_of _ (by decide +kernel)) ggX7_load_X7_keeps
theorem dX7_load_0 : decode cX7_load 0 = .ok (.iload_n 1, 1) := by decide +kernel
theorem dX7_load_1 : decode cX7_load 1 = .ok (.invokestatic 55, 3) := by decide +kernel
theorem dX7_load_4 : decode cX7_load 4 = .ok (.ifCond .eq 20, 3) := by decide +kernel
theorem dX7_load_7 : decode cX7_load 7 = .ok (.iload_n 2, 1) := by decide +kernel
theorem dX7_load_8 : decode cX7_load 8 = .ok (.invokestatic 84, 3) := by decide +kernel
theorem dX7_load_11 : decode cX7_load 11 = .ok (.ifCond .eq 13, 3) := by decide +kernel
theorem dX7_load_14 : decode cX7_load 14 = .ok (.iload_n 3, 1) := by decide +kernel
theorem dX7_load_15 : decode cX7_load 15 = .ok (.iconst 1, 1) := by decide +kernel
theorem dX7_load_16 : decode cX7_load 16 = .ok (.bipush 127, 2) := by decide +kernel
theorem dX7_load_18 : decode cX7_load 18 = .ok (.invokestatic 51, 3) := by decide +kernel
theorem dX7_load_21 : decode cX7_load 21 = .ok (.ifCond .ne 6, 3) := by decide +kernel
theorem dX7_load_24 : decode cX7_load 24 = .ok (.bipush (-2), 2) := by decide +kernel
theorem dX7_load_26 : decode cX7_load 26 = .ok (.ireturn, 1) := by decide +kernel
theorem dX7_load_27 : decode cX7_load 27 = .ok (.aload_n 0, 1) := by decide +kernel
theorem dX7_load_28 : decode cX7_load 28 = .ok (.getfield 35, 3) := by decide +kernel
theorem dX7_load_31 : decode cX7_load 31 = .ok (.iload_n 2, 1) := by decide +kernel
theorem dX7_load_32 : decode cX7_load 32 = .ok (.baload, 1) := by decide +kernel
theorem dX7_load_33 : decode cX7_load 33 = .ok (.ifCond .ne 9, 3) := by decide +kernel
theorem dX7_load_36 : decode cX7_load 36 = .ok (.aload_n 0, 1) := by decide +kernel
theorem dX7_load_37 : decode cX7_load 37 = .ok (.iconst 1, 1) := by decide +kernel
theorem dX7_load_38 : decode cX7_load 38 = .ok (.invokevirtual 87, 3) := by decide +kernel
theorem dX7_load_41 : decode cX7_load 41 = .ok (.ireturn, 1) := by decide +kernel
theorem dX7_load_42 : decode cX7_load 42 = .ok (.aload_n 0, 1) := by decide +kernel
theorem dX7_load_43 : decode cX7_load 43 = .ok (.getfield 42, 3) := by decide +kernel
theorem dX7_load_46 : decode cX7_load 46 = .ok (.iload_n 2, 1) := by decide +kernel
theorem dX7_load_47 : decode cX7_load 47 = .ok (.iaload, 1) := by decide +kernel
theorem dX7_load_48 : decode cX7_load 48 = .ok (.iload_n 3, 1) := by decide +kernel
theorem dX7_load_49 : decode cX7_load 49 = .ok (.if_icmp .ge 9, 3) := by decide +kernel
theorem dX7_load_52 : decode cX7_load 52 = .ok (.aload_n 0, 1) := by decide +kernel
theorem dX7_load_53 : decode cX7_load 53 = .ok (.iconst 2, 1) := by decide +kernel
theorem dX7_load_54 : decode cX7_load 54 = .ok (.invokevirtual 87, 3) := by decide +kernel
theorem dX7_load_57 : decode cX7_load 57 = .ok (.ireturn, 1) := by decide +kernel
theorem dX7_load_58 : decode cX7_load 58 = .ok (.iconst 0, 1) := by decide +kernel
theorem dX7_load_59 : decode cX7_load 59 = .ok (.istore 4, 2) := by decide +kernel
theorem dX7_load_61 : decode cX7_load 61 = .ok (.iload 4, 2) := by decide +kernel
theorem dX7_load_63 : decode cX7_load 63 = .ok (.iload_n 3, 1) := by decide +kernel
theorem dX7_load_64 : decode cX7_load 64 = .ok (.if_icmp .ge 37, 3) := by decide +kernel
theorem dX7_load_67 : decode cX7_load 67 = .ok (.aload_n 0, 1) := by decide +kernel
theorem dX7_load_68 : decode cX7_load 68 = .ok (.getfield 16, 3) := by decide +kernel
theorem dX7_load_71 : decode cX7_load 71 = .ok (.iload 4, 2) := by decide +kernel
theorem dX7_load_73 : decode cX7_load 73 = .ok (.aload_n 0, 1) := by decide +kernel
theorem dX7_load_74 : decode cX7_load 74 = .ok (.getfield 45, 3) := by decide +kernel
theorem dX7_load_77 : decode cX7_load 77 = .ok (.sipush 300, 3) := by decide +kernel
theorem dX7_load_80 : decode cX7_load 80 = .ok (.iload_n 2, 1) := by decide +kernel
theorem dX7_load_81 : decode cX7_load 81 = .ok (.imul, 1) := by decide +kernel
theorem dX7_load_82 : decode cX7_load 82 = .ok (.iload 4, 2) := by decide +kernel
theorem dX7_load_84 : decode cX7_load 84 = .ok (.iadd, 1) := by decide +kernel
theorem dX7_load_85 : decode cX7_load 85 = .ok (.iaload, 1) := by decide +kernel
theorem dX7_load_86 : decode cX7_load 86 = .ok (.ifCond .ge 7, 3) := by decide +kernel
theorem dX7_load_89 : decode cX7_load 89 = .ok (.iconst (-1), 1) := by decide +kernel
theorem dX7_load_90 : decode cX7_load 90 = .ok (.goto 4, 3) := by decide +kernel
theorem dX7_load_93 : decode cX7_load 93 = .ok (.iconst 1, 1) := by decide +kernel
theorem dX7_load_94 : decode cX7_load 94 = .ok (.iastore, 1) := by decide +kernel
theorem dX7_load_95 : decode cX7_load 95 = .ok (.iinc 4 1, 3) := by decide +kernel
theorem dX7_load_98 : decode cX7_load 98 = .ok (.goto (-37), 3) := by decide +kernel
theorem dX7_load_101 : decode cX7_load 101 = .ok (.aload_n 0, 1) := by decide +kernel
theorem dX7_load_102 : decode cX7_load 102 = .ok (.iload_n 1, 1) := by decide +kernel
theorem dX7_load_103 : decode cX7_load 103 = .ok (.iload_n 3, 1) := by decide +kernel
theorem dX7_load_104 : decode cX7_load 104 = .ok (.invokevirtual 66, 3) := by decide +kernel
theorem dX7_load_107 : decode cX7_load 107 = .ok (.iload_n 3, 1) := by decide +kernel
theorem dX7_load_108 : decode cX7_load 108 = .ok (.ireturn, 1) := by decide +kernel
set_option maxRecDepth 20000 in
theorem ggX7_drop_X7_isRow : GoodIn wsX7_drop wsX7_isRow := goodIn_r _ [5, 6, 7, 4, 8] (by decide +kernel) (by decide +kernel)
set_option maxRecDepth 20000 in
theorem gX7_drop_X7_isRow : GoodIn wsX7_drop (va_wsS RX7 55 yX7_isRow wsX7_isRow) := goodIn_app (goodIn_of _ (by decide +kernel)) ggX7_drop_X7_isRow
theorem dX7_drop_0 : decode cX7_drop 0 = .ok (.iload_n 1, 1) := by decide +kernel
theorem dX7_drop_1 : decode cX7_drop 1 = .ok (.invokestatic 55, 3) := by decide +kernel
theorem dX7_drop_4 : decode cX7_drop 4 = .ok (.ifCond .ne 6, 3) := by decide +kernel
theorem dX7_drop_7 : decode cX7_drop 7 = .ok (.bipush (-2), 2) := by decide +kernel
theorem dX7_drop_9 : decode cX7_drop 9 = .ok (.ireturn, 1) := by decide +kernel
theorem dX7_drop_10 : decode cX7_drop 10 = .ok (.aload_n 0, 1) := by decide +kernel
theorem dX7_drop_11 : decode cX7_drop 11 = .ok (.getfield 7, 3) := by decide +kernel
theorem dX7_drop_14 : decode cX7_drop 14 = .ok (.iload_n 1, 1) := by decide +kernel
theorem dX7_drop_15 : decode cX7_drop 15 = .ok (.iaload, 1) := by decide +kernel
theorem dX7_drop_16 : decode cX7_drop 16 = .ok (.ifCond .ne 6, 3) := by decide +kernel
theorem dX7_drop_19 : decode cX7_drop 19 = .ok (.bipush (-3), 2) := by decide +kernel
theorem dX7_drop_21 : decode cX7_drop 21 = .ok (.ireturn, 1) := by decide +kernel
theorem dX7_drop_22 : decode cX7_drop 22 = .ok (.aload_n 0, 1) := by decide +kernel
theorem dX7_drop_23 : decode cX7_drop 23 = .ok (.getfield 7, 3) := by decide +kernel
theorem dX7_drop_26 : decode cX7_drop 26 = .ok (.iload_n 1, 1) := by decide +kernel
theorem dX7_drop_27 : decode cX7_drop 27 = .ok (.iaload, 1) := by decide +kernel
theorem dX7_drop_28 : decode cX7_drop 28 = .ok (.istore_n 2, 1) := by decide +kernel
theorem dX7_drop_29 : decode cX7_drop 29 = .ok (.aload_n 0, 1) := by decide +kernel
theorem dX7_drop_30 : decode cX7_drop 30 = .ok (.getfield 7, 3) := by decide +kernel
theorem dX7_drop_33 : decode cX7_drop 33 = .ok (.iload_n 1, 1) := by decide +kernel
theorem dX7_drop_34 : decode cX7_drop 34 = .ok (.iconst 0, 1) := by decide +kernel
theorem dX7_drop_35 : decode cX7_drop 35 = .ok (.iastore, 1) := by decide +kernel
theorem dX7_drop_36 : decode cX7_drop 36 = .ok (.iload_n 2, 1) := by decide +kernel
theorem dX7_drop_37 : decode cX7_drop 37 = .ok (.ireturn, 1) := by decide +kernel
set_option maxRecDepth 20000 in
theorem ggX7_sign_X7_isRow : GoodIn wsX7_sign wsX7_isRow := goodIn_r _ [5, 6, 7, 4, 8] (by decide +kernel) (by decide +kernel)
set_option maxRecDepth 20000 in
theorem gX7_sign_X7_isRow : GoodIn wsX7_sign (va_wsS RX7 55 yX7_isRow wsX7_isRow) := goodIn_app (goodIn_of _ (by decide +kernel)) ggX7_sign_X7_isRow
set_option maxRecDepth 20000 in
theorem ggX7_sign_X7_isShift : GoodIn wsX7_sign wsX7_isShift := goodIn_r _ [11, 6, 7, 4, 8] (by decide +kernel) (by decide +kernel)
set_option maxRecDepth 20000 in
theorem gX7_sign_X7_isShift : GoodIn wsX7_sign (va_wsS RX7 73 yX7_isShift wsX7_isShift) := goodIn_app (goodIn_of _ (by decide +kernel)) ggX7_sign_X7_isShift
set_option maxRecDepth 20000 in
theorem ggX7_sign_X7_signOf : GoodIn wsX7_sign wsX7_signOf := goodIn_r _ [15, 16, 1, 17, 18, 19, 20, 21, 22, 23, 24, 25, 26, 27, 28, 29, 30, 31, 32, 33, 34, 35] (by decide +kernel) (by decide +kernel)
set_option maxRecDepth 20000 in
theorem gX7_sign_X7_signOf : GoodIn wsX7_sign (wsV RX7 80 RX7 yX7_signOf wsX7_signOf) := goodIn_app (goodIn_of _ (by decide +kernel)) ggX7_sign_X7_signOf
theorem dX7_sign_0 : decode cX7_sign 0 = .ok (.iload_n 1, 1) := by decide +kernel
theorem dX7_sign_1 : decode cX7_sign 1 = .ok (.invokestatic 55, 3) := by decide +kernel
theorem dX7_sign_4 : decode cX7_sign 4 = .ok (.ifCond .eq 10, 3) := by decide +kernel
theorem dX7_sign_7 : decode cX7_sign 7 = .ok (.iload_n 2, 1) := by decide +kernel
theorem dX7_sign_8 : decode cX7_sign 8 = .ok (.invokestatic 73, 3) := by decide +kernel
theorem dX7_sign_11 : decode cX7_sign 11 = .ok (.ifCond .ne 6, 3) := by decide +kernel
theorem dX7_sign_14 : decode cX7_sign 14 = .ok (.bipush (-2), 2) := by decide +kernel
theorem dX7_sign_16 : decode cX7_sign 16 = .ok (.ireturn, 1) := by decide +kernel
theorem dX7_sign_17 : decode cX7_sign 17 = .ok (.aload_n 0, 1) := by decide +kernel
theorem dX7_sign_18 : decode cX7_sign 18 = .ok (.getfield 7, 3) := by decide +kernel
theorem dX7_sign_21 : decode cX7_sign 21 = .ok (.iload_n 1, 1) := by decide +kernel
theorem dX7_sign_22 : decode cX7_sign 22 = .ok (.iaload, 1) := by decide +kernel
theorem dX7_sign_23 : decode cX7_sign 23 = .ok (.ifCond .ne 8, 3) := by decide +kernel
theorem dX7_sign_26 : decode cX7_sign 26 = .ok (.bipush (-3), 2) := by decide +kernel
theorem dX7_sign_28 : decode cX7_sign 28 = .ok (.goto 9, 3) := by decide +kernel
theorem dX7_sign_31 : decode cX7_sign 31 = .ok (.aload_n 0, 1) := by decide +kernel
theorem dX7_sign_32 : decode cX7_sign 32 = .ok (.iload_n 1, 1) := by decide +kernel
theorem dX7_sign_33 : decode cX7_sign 33 = .ok (.iload_n 2, 1) := by decide +kernel
theorem dX7_sign_34 : decode cX7_sign 34 = .ok (.invokevirtual 80, 3) := by decide +kernel
theorem dX7_sign_37 : decode cX7_sign 37 = .ok (.ireturn, 1) := by decide +kernel
set_option maxRecDepth 20000 in
theorem ggX7_likeness_X7_signOf : GoodIn wsX7_likeness wsX7_signOf := goodIn_r _ [6, 7, 1, 8, 9, 10, 11, 12, 13, 14, 15, 16, 17, 18, 19, 20, 21, 22, 23, 24, 25, 26] (by decide +kernel) (by decide +kernel)
set_option maxRecDepth 20000 in
theorem gX7_likeness_X7_signOf : GoodIn wsX7_likeness (wsV RX7 80 RX7 yX7_signOf wsX7_signOf) := goodIn_app (goodIn_of _ (by decide +kernel)) ggX7_likeness_X7_signOf
theorem dX7_likeness_0 : decode cX7_likeness 0 = .ok (.iconst 0, 1) := by decide +kernel
theorem dX7_likeness_1 : decode cX7_likeness 1 = .ok (.istore 4, 2) := by decide +kernel
theorem dX7_likeness_3 : decode cX7_likeness 3 = .ok (.iconst 0, 1) := by decide +kernel
theorem dX7_likeness_4 : decode cX7_likeness 4 = .ok (.istore 5, 2) := by decide +kernel
theorem dX7_likeness_6 : decode cX7_likeness 6 = .ok (.iload 5, 2) := by decide +kernel
theorem dX7_likeness_8 : decode cX7_likeness 8 = .ok (.aload_n 0, 1) := by decide +kernel
theorem dX7_likeness_9 : decode cX7_likeness 9 = .ok (.getfield 7, 3) := by decide +kernel
theorem dX7_likeness_12 : decode cX7_likeness 12 = .ok (.iload_n 1, 1) := by decide +kernel
theorem dX7_likeness_13 : decode cX7_likeness 13 = .ok (.iaload, 1) := by decide +kernel
end
section
theorem dX7_likeness_14 : decode cX7_likeness 14 = .ok (.if_icmp .ge 31, 3) := by decide +kernel
theorem dX7_likeness_17 : decode cX7_likeness 17 = .ok (.iload 4, 2) := by decide +kernel
theorem dX7_likeness_19 : decode cX7_likeness 19 = .ok (.aload_n 0, 1) := by decide +kernel
theorem dX7_likeness_20 : decode cX7_likeness 20 = .ok (.iload_n 1, 1) := by decide +kernel
theorem dX7_likeness_21 : decode cX7_likeness 21 = .ok (.iload 5, 2) := by decide +kernel
theorem dX7_likeness_23 : decode cX7_likeness 23 = .ok (.invokevirtual 80, 3) := by decide +kernel
theorem dX7_likeness_26 : decode cX7_likeness 26 = .ok (.aload_n 0, 1) := by decide +kernel
theorem dX7_likeness_27 : decode cX7_likeness 27 = .ok (.iload_n 2, 1) := by decide +kernel
theorem dX7_likeness_28 : decode cX7_likeness 28 = .ok (.iload 5, 2) := by decide +kernel
theorem dX7_likeness_30 : decode cX7_likeness 30 = .ok (.iload_n 3, 1) := by decide +kernel
theorem dX7_likeness_31 : decode cX7_likeness 31 = .ok (.iadd, 1) := by decide +kernel
theorem dX7_likeness_32 : decode cX7_likeness 32 = .ok (.invokevirtual 80, 3) := by decide +kernel
theorem dX7_likeness_35 : decode cX7_likeness 35 = .ok (.imul, 1) := by decide +kernel
theorem dX7_likeness_36 : decode cX7_likeness 36 = .ok (.iadd, 1) := by decide +kernel
theorem dX7_likeness_37 : decode cX7_likeness 37 = .ok (.istore 4, 2) := by decide +kernel
theorem dX7_likeness_39 : decode cX7_likeness 39 = .ok (.iinc 5 1, 3) := by decide +kernel
theorem dX7_likeness_42 : decode cX7_likeness 42 = .ok (.goto (-36), 3) := by decide +kernel
theorem dX7_likeness_45 : decode cX7_likeness 45 = .ok (.iload 4, 2) := by decide +kernel
theorem dX7_likeness_47 : decode cX7_likeness 47 = .ok (.ireturn, 1) := by decide +kernel
set_option maxRecDepth 20000 in
theorem ggX7_like_X7_isRow : GoodIn wsX7_like wsX7_isRow := goodIn_r _ [4, 5, 6, 3, 7] (by decide +kernel) (by decide +kernel)
set_option maxRecDepth 20000 in
theorem gX7_like_X7_isRow : GoodIn wsX7_like (va_wsS RX7 55 yX7_isRow wsX7_isRow) := goodIn_app (goodIn_of _ (by decide +kernel)) ggX7_like_X7_isRow
set_option maxRecDepth 20000 in
theorem ggX7_like_X7_isShift : GoodIn wsX7_like wsX7_isShift := goodIn_r _ [10, 5, 6, 3, 7] (by decide +kernel) (by decide +kernel)
set_option maxRecDepth 20000 in
theorem gX7_like_X7_isShift : GoodIn wsX7_like (va_wsS RX7 73 yX7_isShift wsX7_isShift) := goodIn_app (goodIn_of _ (by decide +kernel)) ggX7_like_X7_isShift
set_option maxRecDepth 20000 in
theorem ggX7_like_X7_arePair : GoodIn wsX7_like wsX7_arePair := goodIn_r _ [14, 15, 25, 26, 27, 28, 29, 30, 31, 32, 33, 34, 35, 36, 37, 38, 39, 40, 41, 42, 43] (by decide +kernel) (by decide +kernel)
set_option maxRecDepth 20000 in
theorem gX7_like_X7_arePair : GoodIn wsX7_like (wsV RX7 76 RX7 yX7_arePair wsX7_arePair) := goodIn_app (goodIn_of _ (by decide +kernel)) ggX7_like_X7_arePair
set_option maxRecDepth 20000 in
theorem ggX7_like_X7_likeness : GoodIn wsX7_like wsX7_likeness := goodIn_r _ [19, 15, 20, 21, 22, 3, 23, 24, 25, 26, 27, 28, 29, 30, 31, 32, 33, 34, 35, 36, 37, 38, 39, 40, 41, 42, 43] (by decide +kernel) (by decide +kernel)
set_option maxRecDepth 20000 in
theorem gX7_like_X7_likeness : GoodIn wsX7_like (wsV RX7 91 RX7 yX7_likeness wsX7_likeness) := goodIn_app (goodIn_of _ (by decide +kernel)) ggX7_like_X7_likeness
theorem dX7_like_0 : decode cX7_like 0 = .ok (.iload_n 1, 1) := by decide +kernel
theorem dX7_like_1 : decode cX7_like 1 = .ok (.invokestatic 55, 3) := by decide +kernel
theorem dX7_like_4 : decode cX7_like 4 = .ok (.ifCond .eq 17, 3) := by decide +kernel
theorem dX7_like_7 : decode cX7_like 7 = .ok (.iload_n 2, 1) := by decide +kernel
theorem dX7_like_8 : decode cX7_like 8 = .ok (.invokestatic 55, 3) := by decide +kernel
theorem dX7_like_11 : decode cX7_like 11 = .ok (.ifCond .eq 10, 3) := by decide +kernel
theorem dX7_like_14 : decode cX7_like 14 = .ok (.iload_n 3, 1) := by decide +kernel
theorem dX7_like_15 : decode cX7_like 15 = .ok (.invokestatic 73, 3) := by decide +kernel
theorem dX7_like_18 : decode cX7_like 18 = .ok (.ifCond .ne 7, 3) := by decide +kernel
theorem dX7_like_21 : decode cX7_like 21 = .ok (.sipush (-1002), 3) := by decide +kernel
theorem dX7_like_24 : decode cX7_like 24 = .ok (.ireturn, 1) := by decide +kernel
theorem dX7_like_25 : decode cX7_like 25 = .ok (.aload_n 0, 1) := by decide +kernel
theorem dX7_like_26 : decode cX7_like 26 = .ok (.iload_n 1, 1) := by decide +kernel
theorem dX7_like_27 : decode cX7_like 27 = .ok (.iload_n 2, 1) := by decide +kernel
theorem dX7_like_28 : decode cX7_like 28 = .ok (.invokevirtual 76, 3) := by decide +kernel
theorem dX7_like_31 : decode cX7_like 31 = .ok (.ifCond .eq 13, 3) := by decide +kernel
theorem dX7_like_34 : decode cX7_like 34 = .ok (.aload_n 0, 1) := by decide +kernel
theorem dX7_like_35 : decode cX7_like 35 = .ok (.iload_n 1, 1) := by decide +kernel
theorem dX7_like_36 : decode cX7_like 36 = .ok (.iload_n 2, 1) := by decide +kernel
theorem dX7_like_37 : decode cX7_like 37 = .ok (.iload_n 3, 1) := by decide +kernel
theorem dX7_like_38 : decode cX7_like 38 = .ok (.invokevirtual 91, 3) := by decide +kernel
theorem dX7_like_41 : decode cX7_like 41 = .ok (.goto 6, 3) := by decide +kernel
theorem dX7_like_44 : decode cX7_like 44 = .ok (.sipush (-1003), 3) := by decide +kernel
theorem dX7_like_47 : decode cX7_like 47 = .ok (.ireturn, 1) := by decide +kernel
set_option maxRecDepth 20000 in
theorem ggX7_most_X7_isRow : GoodIn wsX7_most wsX7_isRow := goodIn_r _ [5, 6, 7, 4, 8] (by decide +kernel) (by decide +kernel)
set_option maxRecDepth 20000 in
theorem gX7_most_X7_isRow : GoodIn wsX7_most (va_wsS RX7 55 yX7_isRow wsX7_isRow) := goodIn_app (goodIn_of _ (by decide +kernel)) ggX7_most_X7_isRow
set_option maxRecDepth 20000 in
theorem ggX7_most_X7_arePair : GoodIn wsX7_most wsX7_arePair := goodIn_r _ [12, 1, 22, 23, 24, 25, 26, 27, 28, 29, 30, 31, 32, 33, 34, 35, 36, 37, 38, 39, 40] (by decide +kernel) (by decide +kernel)
set_option maxRecDepth 20000 in
theorem gX7_most_X7_arePair : GoodIn wsX7_most (wsV RX7 76 RX7 yX7_arePair wsX7_arePair) := goodIn_app (goodIn_of _ (by decide +kernel)) ggX7_most_X7_arePair
set_option maxRecDepth 20000 in
theorem ggX7_most_X7_likeness : GoodIn wsX7_most wsX7_likeness := goodIn_r _ [16, 1, 17, 18, 19, 4, 20, 21, 22, 23, 24, 25, 26, 27, 28, 29, 30, 31, 32, 33, 34, 35, 36, 37, 38, 39, 40] (by decide +kernel) (by decide +kernel)
set_option maxRecDepth 20000 in
theorem gX7_most_X7_likeness : GoodIn wsX7_most (wsV RX7 91 RX7 yX7_likeness wsX7_likeness) := goodIn_app (goodIn_of _ (by decide +kernel)) ggX7_most_X7_likeness
theorem dX7_most_0 : decode cX7_most 0 = .ok (.iload_n 1, 1) := by decide +kernel
theorem dX7_most_1 : decode cX7_most 1 = .ok (.invokestatic 55, 3) := by decide +kernel
theorem dX7_most_4 : decode cX7_most 4 = .ok (.ifCond .eq 10, 3) := by decide +kernel
theorem dX7_most_7 : decode cX7_most 7 = .ok (.iload_n 2, 1) := by decide +kernel
theorem dX7_most_8 : decode cX7_most 8 = .ok (.invokestatic 55, 3) := by decide +kernel
theorem dX7_most_11 : decode cX7_most 11 = .ok (.ifCond .ne 6, 3) := by decide +kernel
theorem dX7_most_14 : decode cX7_most 14 = .ok (.bipush (-2), 2) := by decide +kernel
theorem dX7_most_16 : decode cX7_most 16 = .ok (.ireturn, 1) := by decide +kernel
theorem dX7_most_17 : decode cX7_most 17 = .ok (.aload_n 0, 1) := by decide +kernel
theorem dX7_most_18 : decode cX7_most 18 = .ok (.iload_n 1, 1) := by decide +kernel
theorem dX7_most_19 : decode cX7_most 19 = .ok (.iload_n 2, 1) := by decide +kernel
theorem dX7_most_20 : decode cX7_most 20 = .ok (.invokevirtual 76, 3) := by decide +kernel
theorem dX7_most_23 : decode cX7_most 23 = .ok (.ifCond .ne 6, 3) := by decide +kernel
theorem dX7_most_26 : decode cX7_most 26 = .ok (.bipush (-3), 2) := by decide +kernel
theorem dX7_most_28 : decode cX7_most 28 = .ok (.ireturn, 1) := by decide +kernel
theorem dX7_most_29 : decode cX7_most 29 = .ok (.iconst 0, 1) := by decide +kernel
theorem dX7_most_30 : decode cX7_most 30 = .ok (.istore_n 3, 1) := by decide +kernel
theorem dX7_most_31 : decode cX7_most 31 = .ok (.iload_n 1, 1) := by decide +kernel
theorem dX7_most_32 : decode cX7_most 32 = .ok (.iload_n 2, 1) := by decide +kernel
theorem dX7_most_33 : decode cX7_most 33 = .ok (.if_icmp .ne 7, 3) := by decide +kernel
theorem dX7_most_36 : decode cX7_most 36 = .ok (.iconst 1, 1) := by decide +kernel
theorem dX7_most_37 : decode cX7_most 37 = .ok (.goto 4, 3) := by decide +kernel
theorem dX7_most_40 : decode cX7_most 40 = .ok (.iconst 0, 1) := by decide +kernel
theorem dX7_most_41 : decode cX7_most 41 = .ok (.istore 4, 2) := by decide +kernel
theorem dX7_most_43 : decode cX7_most 43 = .ok (.iload 4, 2) := by decide +kernel
theorem dX7_most_45 : decode cX7_most 45 = .ok (.aload_n 0, 1) := by decide +kernel
theorem dX7_most_46 : decode cX7_most 46 = .ok (.getfield 7, 3) := by decide +kernel
theorem dX7_most_49 : decode cX7_most 49 = .ok (.iload_n 1, 1) := by decide +kernel
theorem dX7_most_50 : decode cX7_most 50 = .ok (.iaload, 1) := by decide +kernel
theorem dX7_most_51 : decode cX7_most 51 = .ok (.if_icmp .ge 47, 3) := by decide +kernel
theorem dX7_most_54 : decode cX7_most 54 = .ok (.aload_n 0, 1) := by decide +kernel
theorem dX7_most_55 : decode cX7_most 55 = .ok (.iload_n 1, 1) := by decide +kernel
theorem dX7_most_56 : decode cX7_most 56 = .ok (.iload_n 2, 1) := by decide +kernel
theorem dX7_most_57 : decode cX7_most 57 = .ok (.iload 4, 2) := by decide +kernel
theorem dX7_most_59 : decode cX7_most 59 = .ok (.invokevirtual 91, 3) := by decide +kernel
theorem dX7_most_62 : decode cX7_most 62 = .ok (.istore 5, 2) := by decide +kernel
theorem dX7_most_64 : decode cX7_most 64 = .ok (.iload 5, 2) := by decide +kernel
theorem dX7_most_66 : decode cX7_most 66 = .ok (.ifCond .ge 9, 3) := by decide +kernel
theorem dX7_most_69 : decode cX7_most 69 = .ok (.iload 5, 2) := by decide +kernel
theorem dX7_most_71 : decode cX7_most 71 = .ok (.ineg, 1) := by decide +kernel
theorem dX7_most_72 : decode cX7_most 72 = .ok (.goto 5, 3) := by decide +kernel
theorem dX7_most_75 : decode cX7_most 75 = .ok (.iload 5, 2) := by decide +kernel
theorem dX7_most_77 : decode cX7_most 77 = .ok (.istore 5, 2) := by decide +kernel
theorem dX7_most_79 : decode cX7_most 79 = .ok (.iload 5, 2) := by decide +kernel
theorem dX7_most_81 : decode cX7_most 81 = .ok (.iload_n 3, 1) := by decide +kernel
theorem dX7_most_82 : decode cX7_most 82 = .ok (.if_icmp .le 8, 3) := by decide +kernel
theorem dX7_most_85 : decode cX7_most 85 = .ok (.iload 5, 2) := by decide +kernel
theorem dX7_most_87 : decode cX7_most 87 = .ok (.goto 4, 3) := by decide +kernel
theorem dX7_most_90 : decode cX7_most 90 = .ok (.iload_n 3, 1) := by decide +kernel
theorem dX7_most_91 : decode cX7_most 91 = .ok (.istore_n 3, 1) := by decide +kernel
theorem dX7_most_92 : decode cX7_most 92 = .ok (.iinc 4 1, 3) := by decide +kernel
theorem dX7_most_95 : decode cX7_most 95 = .ok (.goto (-52), 3) := by decide +kernel
theorem dX7_most_98 : decode cX7_most 98 = .ok (.iload_n 3, 1) := by decide +kernel
theorem dX7_most_99 : decode cX7_most 99 = .ok (.ireturn, 1) := by decide +kernel
set_option maxRecDepth 20000 in
theorem ggX7_sample_X7_in : GoodIn wsX7_sample wsX7_in := goodIn_r _ [7] (by decide +kernel) (by decide +kernel)
set_option maxRecDepth 20000 in
theorem gX7_sample_X7_in : GoodIn wsX7_sample (va_wsS RX7 51 yX7_in wsX7_in) := goodIn_app (goodIn_of _ (by decide +kernel)) ggX7_sample_X7_in
theorem dX7_sample_0 : decode cX7_sample 0 = .ok (.aload_n 0, 1) := by decide +kernel
theorem dX7_sample_1 : decode cX7_sample 1 = .ok (.getfield 35, 3) := by decide +kernel
theorem dX7_sample_4 : decode cX7_sample 4 = .ok (.iload_n 1, 1) := by decide +kernel
theorem dX7_sample_5 : decode cX7_sample 5 = .ok (.baload, 1) := by decide +kernel
theorem dX7_sample_6 : decode cX7_sample 6 = .ok (.ifCond .eq 28, 3) := by decide +kernel
theorem dX7_sample_9 : decode cX7_sample 9 = .ok (.iload_n 2, 1) := by decide +kernel
theorem dX7_sample_10 : decode cX7_sample 10 = .ok (.aload_n 0, 1) := by decide +kernel
theorem dX7_sample_11 : decode cX7_sample 11 = .ok (.getfield 42, 3) := by decide +kernel
theorem dX7_sample_14 : decode cX7_sample 14 = .ok (.iload_n 1, 1) := by decide +kernel
theorem dX7_sample_15 : decode cX7_sample 15 = .ok (.iaload, 1) := by decide +kernel
theorem dX7_sample_16 : decode cX7_sample 16 = .ok (.if_icmp .ge 18, 3) := by decide +kernel
theorem dX7_sample_19 : decode cX7_sample 19 = .ok (.aload_n 0, 1) := by decide +kernel
theorem dX7_sample_20 : decode cX7_sample 20 = .ok (.getfield 45, 3) := by decide +kernel
theorem dX7_sample_23 : decode cX7_sample 23 = .ok (.sipush 300, 3) := by decide +kernel
theorem dX7_sample_26 : decode cX7_sample 26 = .ok (.iload_n 1, 1) := by decide +kernel
theorem dX7_sample_27 : decode cX7_sample 27 = .ok (.imul, 1) := by decide +kernel
theorem dX7_sample_28 : decode cX7_sample 28 = .ok (.iload_n 2, 1) := by decide +kernel
theorem dX7_sample_29 : decode cX7_sample 29 = .ok (.iadd, 1) := by decide +kernel
theorem dX7_sample_30 : decode cX7_sample 30 = .ok (.iaload, 1) := by decide +kernel
theorem dX7_sample_31 : decode cX7_sample 31 = .ok (.goto 4, 3) := by decide +kernel
theorem dX7_sample_34 : decode cX7_sample 34 = .ok (.iconst 0, 1) := by decide +kernel
theorem dX7_sample_35 : decode cX7_sample 35 = .ok (.istore_n 3, 1) := by decide +kernel
theorem dX7_sample_36 : decode cX7_sample 36 = .ok (.iload_n 3, 1) := by decide +kernel
theorem dX7_sample_37 : decode cX7_sample 37 = .ok (.sipush (-10000), 3) := by decide +kernel
theorem dX7_sample_40 : decode cX7_sample 40 = .ok (.sipush 10000, 3) := by decide +kernel
theorem dX7_sample_43 : decode cX7_sample 43 = .ok (.invokestatic 51, 3) := by decide +kernel
theorem dX7_sample_46 : decode cX7_sample 46 = .ok (.ifCond .eq 7, 3) := by decide +kernel
theorem dX7_sample_49 : decode cX7_sample 49 = .ok (.iload_n 3, 1) := by decide +kernel
theorem dX7_sample_50 : decode cX7_sample 50 = .ok (.goto 4, 3) := by decide +kernel
theorem dX7_sample_53 : decode cX7_sample 53 = .ok (.iconst 0, 1) := by decide +kernel
theorem dX7_sample_54 : decode cX7_sample 54 = .ok (.ireturn, 1) := by decide +kernel
set_option maxRecDepth 20000 in
theorem ggX7_heardOf_X7_sample : GoodIn wsX7_heardOf wsX7_sample := goodIn_r _ [6, 7, 8, 9, 10, 11, 5, 12, 18, 19, 20, 21, 22, 23, 24, 25, 26, 27, 28, 29, 30, 31, 32, 33, 34, 35, 36] (by decide +kernel) (by decide +kernel)
set_option maxRecDepth 20000 in
theorem gX7_heardOf_X7_sample : GoodIn wsX7_heardOf (wsV RX7 94 RX7 yX7_sample wsX7_sample) := goodIn_app (goodIn_of _ (by decide +kernel)) ggX7_heardOf_X7_sample
set_option maxRecDepth 20000 in
theorem ggX7_heardOf_X7_signOf : GoodIn wsX7_heardOf wsX7_signOf := goodIn_r _ [16, 17, 1, 18, 19, 20, 21, 22, 23, 24, 25, 26, 27, 28, 29, 30, 31, 32, 33, 34, 35, 36] (by decide +kernel) (by decide +kernel)
set_option maxRecDepth 20000 in
theorem gX7_heardOf_X7_signOf : GoodIn wsX7_heardOf (wsV RX7 80 RX7 yX7_signOf wsX7_signOf) := goodIn_app (goodIn_of _ (by decide +kernel)) ggX7_heardOf_X7_signOf
theorem dX7_heardOf_0 : decode cX7_heardOf 0 = .ok (.iconst 0, 1) := by decide +kernel
theorem dX7_heardOf_1 : decode cX7_heardOf 1 = .ok (.istore 6, 2) := by decide +kernel
theorem dX7_heardOf_3 : decode cX7_heardOf 3 = .ok (.iconst 0, 1) := by decide +kernel
theorem dX7_heardOf_4 : decode cX7_heardOf 4 = .ok (.istore 7, 2) := by decide +kernel
theorem dX7_heardOf_6 : decode cX7_heardOf 6 = .ok (.iload 7, 2) := by decide +kernel
theorem dX7_heardOf_8 : decode cX7_heardOf 8 = .ok (.aload_n 0, 1) := by decide +kernel
theorem dX7_heardOf_9 : decode cX7_heardOf 9 = .ok (.getfield 7, 3) := by decide +kernel
theorem dX7_heardOf_12 : decode cX7_heardOf 12 = .ok (.iload_n 1, 1) := by decide +kernel
theorem dX7_heardOf_13 : decode cX7_heardOf 13 = .ok (.iaload, 1) := by decide +kernel
theorem dX7_heardOf_14 : decode cX7_heardOf 14 = .ok (.if_icmp .ge 143, 3) := by decide +kernel
theorem dX7_heardOf_17 : decode cX7_heardOf 17 = .ok (.aload_n 0, 1) := by decide +kernel
theorem dX7_heardOf_18 : decode cX7_heardOf 18 = .ok (.iconst 0, 1) := by decide +kernel
theorem dX7_heardOf_19 : decode cX7_heardOf 19 = .ok (.iload_n 2, 1) := by decide +kernel
theorem dX7_heardOf_20 : decode cX7_heardOf 20 = .ok (.iload 7, 2) := by decide +kernel
theorem dX7_heardOf_22 : decode cX7_heardOf 22 = .ok (.iadd, 1) := by decide +kernel
theorem dX7_heardOf_23 : decode cX7_heardOf 23 = .ok (.invokevirtual 94, 3) := by decide +kernel
theorem dX7_heardOf_26 : decode cX7_heardOf 26 = .ok (.istore 8, 2) := by decide +kernel
theorem dX7_heardOf_28 : decode cX7_heardOf 28 = .ok (.aload_n 0, 1) := by decide +kernel
theorem dX7_heardOf_29 : decode cX7_heardOf 29 = .ok (.iconst 1, 1) := by decide +kernel
theorem dX7_heardOf_30 : decode cX7_heardOf 30 = .ok (.iload_n 2, 1) := by decide +kernel
theorem dX7_heardOf_31 : decode cX7_heardOf 31 = .ok (.iload 7, 2) := by decide +kernel
theorem dX7_heardOf_33 : decode cX7_heardOf 33 = .ok (.iadd, 1) := by decide +kernel
theorem dX7_heardOf_34 : decode cX7_heardOf 34 = .ok (.invokevirtual 94, 3) := by decide +kernel
theorem dX7_heardOf_37 : decode cX7_heardOf 37 = .ok (.istore 9, 2) := by decide +kernel
theorem dX7_heardOf_39 : decode cX7_heardOf 39 = .ok (.iload 4, 2) := by decide +kernel
theorem dX7_heardOf_41 : decode cX7_heardOf 41 = .ok (.iload 7, 2) := by decide +kernel
theorem dX7_heardOf_43 : decode cX7_heardOf 43 = .ok (.imul, 1) := by decide +kernel
theorem dX7_heardOf_44 : decode cX7_heardOf 44 = .ok (.iconst 4, 1) := by decide +kernel
theorem dX7_heardOf_45 : decode cX7_heardOf 45 = .ok (.irem, 1) := by decide +kernel
theorem dX7_heardOf_46 : decode cX7_heardOf 46 = .ok (.istore 10, 2) := by decide +kernel
theorem dX7_heardOf_48 : decode cX7_heardOf 48 = .ok (.iload 10, 2) := by decide +kernel
theorem dX7_heardOf_50 : decode cX7_heardOf 50 = .ok (.ifCond .ne 8, 3) := by decide +kernel
theorem dX7_heardOf_53 : decode cX7_heardOf 53 = .ok (.iload 8, 2) := by decide +kernel
theorem dX7_heardOf_55 : decode cX7_heardOf 55 = .ok (.goto 29, 3) := by decide +kernel
theorem dX7_heardOf_58 : decode cX7_heardOf 58 = .ok (.iload 10, 2) := by decide +kernel
theorem dX7_heardOf_60 : decode cX7_heardOf 60 = .ok (.iconst 1, 1) := by decide +kernel
theorem dX7_heardOf_61 : decode cX7_heardOf 61 = .ok (.if_icmp .ne 8, 3) := by decide +kernel
theorem dX7_heardOf_64 : decode cX7_heardOf 64 = .ok (.iload 9, 2) := by decide +kernel
theorem dX7_heardOf_66 : decode cX7_heardOf 66 = .ok (.goto 18, 3) := by decide +kernel
theorem dX7_heardOf_69 : decode cX7_heardOf 69 = .ok (.iload 10, 2) := by decide +kernel
theorem dX7_heardOf_71 : decode cX7_heardOf 71 = .ok (.iconst 2, 1) := by decide +kernel
theorem dX7_heardOf_72 : decode cX7_heardOf 72 = .ok (.if_icmp .ne 9, 3) := by decide +kernel
theorem dX7_heardOf_75 : decode cX7_heardOf 75 = .ok (.iload 8, 2) := by decide +kernel
theorem dX7_heardOf_77 : decode cX7_heardOf 77 = .ok (.ineg, 1) := by decide +kernel
theorem dX7_heardOf_78 : decode cX7_heardOf 78 = .ok (.goto 6, 3) := by decide +kernel
theorem dX7_heardOf_81 : decode cX7_heardOf 81 = .ok (.iload 9, 2) := by decide +kernel
theorem dX7_heardOf_83 : decode cX7_heardOf 83 = .ok (.ineg, 1) := by decide +kernel
theorem dX7_heardOf_84 : decode cX7_heardOf 84 = .ok (.istore 11, 2) := by decide +kernel
theorem dX7_heardOf_86 : decode cX7_heardOf 86 = .ok (.iload 10, 2) := by decide +kernel
theorem dX7_heardOf_88 : decode cX7_heardOf 88 = .ok (.ifCond .ne 8, 3) := by decide +kernel
theorem dX7_heardOf_91 : decode cX7_heardOf 91 = .ok (.iload 9, 2) := by decide +kernel
theorem dX7_heardOf_93 : decode cX7_heardOf 93 = .ok (.goto 29, 3) := by decide +kernel
theorem dX7_heardOf_96 : decode cX7_heardOf 96 = .ok (.iload 10, 2) := by decide +kernel
theorem dX7_heardOf_98 : decode cX7_heardOf 98 = .ok (.iconst 1, 1) := by decide +kernel
theorem dX7_heardOf_99 : decode cX7_heardOf 99 = .ok (.if_icmp .ne 9, 3) := by decide +kernel
theorem dX7_heardOf_102 : decode cX7_heardOf 102 = .ok (.iload 8, 2) := by decide +kernel
theorem dX7_heardOf_104 : decode cX7_heardOf 104 = .ok (.ineg, 1) := by decide +kernel
theorem dX7_heardOf_105 : decode cX7_heardOf 105 = .ok (.goto 17, 3) := by decide +kernel
theorem dX7_heardOf_108 : decode cX7_heardOf 108 = .ok (.iload 10, 2) := by decide +kernel
theorem dX7_heardOf_110 : decode cX7_heardOf 110 = .ok (.iconst 2, 1) := by decide +kernel
theorem dX7_heardOf_111 : decode cX7_heardOf 111 = .ok (.if_icmp .ne 9, 3) := by decide +kernel
theorem dX7_heardOf_114 : decode cX7_heardOf 114 = .ok (.iload 9, 2) := by decide +kernel
theorem dX7_heardOf_116 : decode cX7_heardOf 116 = .ok (.ineg, 1) := by decide +kernel
theorem dX7_heardOf_117 : decode cX7_heardOf 117 = .ok (.goto 5, 3) := by decide +kernel
theorem dX7_heardOf_120 : decode cX7_heardOf 120 = .ok (.iload 8, 2) := by decide +kernel
theorem dX7_heardOf_122 : decode cX7_heardOf 122 = .ok (.istore 12, 2) := by decide +kernel
theorem dX7_heardOf_124 : decode cX7_heardOf 124 = .ok (.iload 6, 2) := by decide +kernel
theorem dX7_heardOf_126 : decode cX7_heardOf 126 = .ok (.aload_n 0, 1) := by decide +kernel
theorem dX7_heardOf_127 : decode cX7_heardOf 127 = .ok (.iload_n 1, 1) := by decide +kernel
theorem dX7_heardOf_128 : decode cX7_heardOf 128 = .ok (.iload 7, 2) := by decide +kernel
theorem dX7_heardOf_130 : decode cX7_heardOf 130 = .ok (.iload_n 3, 1) := by decide +kernel
theorem dX7_heardOf_131 : decode cX7_heardOf 131 = .ok (.iadd, 1) := by decide +kernel
theorem dX7_heardOf_132 : decode cX7_heardOf 132 = .ok (.invokevirtual 80, 3) := by decide +kernel
theorem dX7_heardOf_135 : decode cX7_heardOf 135 = .ok (.iload 5, 2) := by decide +kernel
theorem dX7_heardOf_137 : decode cX7_heardOf 137 = .ok (.ifCond .ne 8, 3) := by decide +kernel
theorem dX7_heardOf_140 : decode cX7_heardOf 140 = .ok (.iload 11, 2) := by decide +kernel
theorem dX7_heardOf_142 : decode cX7_heardOf 142 = .ok (.goto 5, 3) := by decide +kernel
theorem dX7_heardOf_145 : decode cX7_heardOf 145 = .ok (.iload 12, 2) := by decide +kernel
theorem dX7_heardOf_147 : decode cX7_heardOf 147 = .ok (.imul, 1) := by decide +kernel
theorem dX7_heardOf_148 : decode cX7_heardOf 148 = .ok (.iadd, 1) := by decide +kernel
theorem dX7_heardOf_149 : decode cX7_heardOf 149 = .ok (.istore 6, 2) := by decide +kernel
theorem dX7_heardOf_151 : decode cX7_heardOf 151 = .ok (.iinc 7 1, 3) := by decide +kernel
theorem dX7_heardOf_154 : decode cX7_heardOf 154 = .ok (.goto (-148), 3) := by decide +kernel
theorem dX7_heardOf_157 : decode cX7_heardOf 157 = .ok (.iload 6, 2) := by decide +kernel
theorem dX7_heardOf_159 : decode cX7_heardOf 159 = .ok (.ireturn, 1) := by decide +kernel
set_option maxRecDepth 20000 in
theorem ggX7_heard_X7_isRow : GoodIn wsX7_heard wsX7_isRow := goodIn_r _ [6, 7, 8, 5, 9] (by decide +kernel) (by decide +kernel)
set_option maxRecDepth 20000 in
theorem gX7_heard_X7_isRow : GoodIn wsX7_heard (va_wsS RX7 55 yX7_isRow wsX7_isRow) := goodIn_app (goodIn_of _ (by decide +kernel)) ggX7_heard_X7_isRow
set_option maxRecDepth 20000 in
theorem ggX7_heard_X7_in : GoodIn wsX7_heard wsX7_in := goodIn_r _ [9] (by decide +kernel) (by decide +kernel)
set_option maxRecDepth 20000 in
theorem gX7_heard_X7_in : GoodIn wsX7_heard (va_wsS RX7 51 yX7_in wsX7_in) := goodIn_app (goodIn_of _ (by decide +kernel)) ggX7_heard_X7_in
set_option maxRecDepth 20000 in
theorem ggX7_heard_X7_isShift : GoodIn wsX7_heard wsX7_isShift := goodIn_r _ [12, 7, 8, 5, 9] (by decide +kernel) (by decide +kernel)
set_option maxRecDepth 20000 in
theorem gX7_heard_X7_isShift : GoodIn wsX7_heard (va_wsS RX7 73 yX7_isShift wsX7_isShift) := goodIn_app (goodIn_of _ (by decide +kernel)) ggX7_heard_X7_isShift
set_option maxRecDepth 20000 in
theorem ggX7_heard_X7_heardOf : GoodIn wsX7_heard wsX7_heardOf := goodIn_r _ [16, 1, 17, 18, 19, 5, 20, 21, 22, 23, 7, 8, 9, 24, 25, 26, 27, 28, 29, 30, 31, 32, 33, 34, 35, 36, 37, 38, 39, 40, 41, 42, 43, 44, 45, 46, 47] (by decide +kernel) (by decide +kernel)
set_option maxRecDepth 20000 in
theorem gX7_heard_X7_heardOf : GoodIn wsX7_heard (wsV RX7 98 RX7 yX7_heardOf wsX7_heardOf) := goodIn_app (goodIn_of _ (by decide +kernel)) ggX7_heard_X7_heardOf
theorem dX7_heard_0 : decode cX7_heard 0 = .ok (.iload_n 1, 1) := by decide +kernel
theorem dX7_heard_1 : decode cX7_heard 1 = .ok (.invokestatic 55, 3) := by decide +kernel
theorem dX7_heard_4 : decode cX7_heard 4 = .ok (.ifCond .eq 50, 3) := by decide +kernel
theorem dX7_heard_7 : decode cX7_heard 7 = .ok (.iload_n 2, 1) := by decide +kernel
theorem dX7_heard_8 : decode cX7_heard 8 = .ok (.iconst 0, 1) := by decide +kernel
theorem dX7_heard_9 : decode cX7_heard 9 = .ok (.sipush 300, 3) := by decide +kernel
theorem dX7_heard_12 : decode cX7_heard 12 = .ok (.invokestatic 51, 3) := by decide +kernel
theorem dX7_heard_15 : decode cX7_heard 15 = .ok (.ifCond .eq 39, 3) := by decide +kernel
theorem dX7_heard_18 : decode cX7_heard 18 = .ok (.iload_n 3, 1) := by decide +kernel
theorem dX7_heard_19 : decode cX7_heard 19 = .ok (.invokestatic 73, 3) := by decide +kernel
theorem dX7_heard_22 : decode cX7_heard 22 = .ok (.ifCond .eq 32, 3) := by decide +kernel
theorem dX7_heard_25 : decode cX7_heard 25 = .ok (.iload 4, 2) := by decide +kernel
theorem dX7_heard_27 : decode cX7_heard 27 = .ok (.iconst 0, 1) := by decide +kernel
theorem dX7_heard_28 : decode cX7_heard 28 = .ok (.iconst 3, 1) := by decide +kernel
theorem dX7_heard_29 : decode cX7_heard 29 = .ok (.invokestatic 51, 3) := by decide +kernel
theorem dX7_heard_32 : decode cX7_heard 32 = .ok (.ifCond .eq 22, 3) := by decide +kernel
theorem dX7_heard_35 : decode cX7_heard 35 = .ok (.iload 5, 2) := by decide +kernel
theorem dX7_heard_37 : decode cX7_heard 37 = .ok (.iconst 0, 1) := by decide +kernel
theorem dX7_heard_38 : decode cX7_heard 38 = .ok (.iconst 1, 1) := by decide +kernel
theorem dX7_heard_39 : decode cX7_heard 39 = .ok (.invokestatic 51, 3) := by decide +kernel
theorem dX7_heard_42 : decode cX7_heard 42 = .ok (.ifCond .eq 12, 3) := by decide +kernel
theorem dX7_heard_45 : decode cX7_heard 45 = .ok (.aload_n 0, 1) := by decide +kernel
theorem dX7_heard_46 : decode cX7_heard 46 = .ok (.getfield 7, 3) := by decide +kernel
theorem dX7_heard_49 : decode cX7_heard 49 = .ok (.iload_n 1, 1) := by decide +kernel
theorem dX7_heard_50 : decode cX7_heard 50 = .ok (.iaload, 1) := by decide +kernel
theorem dX7_heard_51 : decode cX7_heard 51 = .ok (.ifCond .ne 6, 3) := by decide +kernel
theorem dX7_heard_54 : decode cX7_heard 54 = .ok (.ldc 97, 2) := by decide +kernel
theorem dX7_heard_56 : decode cX7_heard 56 = .ok (.ireturn, 1) := by decide +kernel
theorem dX7_heard_57 : decode cX7_heard 57 = .ok (.aload_n 0, 1) := by decide +kernel
theorem dX7_heard_58 : decode cX7_heard 58 = .ok (.iload_n 1, 1) := by decide +kernel
theorem dX7_heard_59 : decode cX7_heard 59 = .ok (.iload_n 2, 1) := by decide +kernel
theorem dX7_heard_60 : decode cX7_heard 60 = .ok (.iload_n 3, 1) := by decide +kernel
theorem dX7_heard_61 : decode cX7_heard 61 = .ok (.iload 4, 2) := by decide +kernel
theorem dX7_heard_63 : decode cX7_heard 63 = .ok (.iload 5, 2) := by decide +kernel
theorem dX7_heard_65 : decode cX7_heard 65 = .ok (.invokevirtual 98, 3) := by decide +kernel
theorem dX7_heard_68 : decode cX7_heard 68 = .ok (.ireturn, 1) := by decide +kernel
set_option maxRecDepth 20000 in
theorem ggX7_finds_X7_heardOf : GoodIn wsX7_finds wsX7_heardOf := goodIn_r _ [9, 4, 10, 11, 12, 8, 13, 14, 15, 16, 17, 18, 19, 20, 21, 22, 23, 24, 25, 26, 27, 28, 29, 30, 31, 32, 33, 34, 35, 36, 37, 38, 39, 40, 41, 42, 43] (by decide +kernel) (by decide +kernel)
set_option maxRecDepth 20000 in
theorem gX7_finds_X7_heardOf : GoodIn wsX7_finds (wsV RX7 98 RX7 yX7_heardOf wsX7_heardOf) := goodIn_app (goodIn_of _ (by decide +kernel)) ggX7_finds_X7_heardOf
theorem dX7_finds_0 : decode cX7_finds 0 = .ok (.iconst (-1), 1) := by decide +kernel
theorem dX7_finds_1 : decode cX7_finds 1 = .ok (.istore_n 3, 1) := by decide +kernel
theorem dX7_finds_2 : decode cX7_finds 2 = .ok (.aload_n 0, 1) := by decide +kernel
theorem dX7_finds_3 : decode cX7_finds 3 = .ok (.ldc2_w 102, 3) := by decide +kernel
theorem dX7_finds_6 : decode cX7_finds 6 = .ok (.putfield 104, 3) := by decide +kernel
theorem dX7_finds_9 : decode cX7_finds 9 = .ok (.aload_n 0, 1) := by decide +kernel
theorem dX7_finds_10 : decode cX7_finds 10 = .ok (.ldc2_w 102, 3) := by decide +kernel
theorem dX7_finds_13 : decode cX7_finds 13 = .ok (.putfield 108, 3) := by decide +kernel
theorem dX7_finds_16 : decode cX7_finds 16 = .ok (.iconst 0, 1) := by decide +kernel
theorem dX7_finds_17 : decode cX7_finds 17 = .ok (.istore 4, 2) := by decide +kernel
theorem dX7_finds_19 : decode cX7_finds 19 = .ok (.iload 4, 2) := by decide +kernel
theorem dX7_finds_21 : decode cX7_finds 21 = .ok (.iconst 4, 1) := by decide +kernel
theorem dX7_finds_22 : decode cX7_finds 22 = .ok (.if_icmp .ge 123, 3) := by decide +kernel
theorem dX7_finds_25 : decode cX7_finds 25 = .ok (.iconst 0, 1) := by decide +kernel
theorem dX7_finds_26 : decode cX7_finds 26 = .ok (.istore 5, 2) := by decide +kernel
theorem dX7_finds_28 : decode cX7_finds 28 = .ok (.iload 5, 2) := by decide +kernel
theorem dX7_finds_30 : decode cX7_finds 30 = .ok (.aload_n 0, 1) := by decide +kernel
theorem dX7_finds_31 : decode cX7_finds 31 = .ok (.getfield 7, 3) := by decide +kernel
theorem dX7_finds_34 : decode cX7_finds 34 = .ok (.iload_n 1, 1) := by decide +kernel
theorem dX7_finds_35 : decode cX7_finds 35 = .ok (.iaload, 1) := by decide +kernel
theorem dX7_finds_36 : decode cX7_finds 36 = .ok (.if_icmp .ge 103, 3) := by decide +kernel
theorem dX7_finds_39 : decode cX7_finds 39 = .ok (.aload_n 0, 1) := by decide +kernel
theorem dX7_finds_40 : decode cX7_finds 40 = .ok (.iload_n 1, 1) := by decide +kernel
theorem dX7_finds_41 : decode cX7_finds 41 = .ok (.iload_n 2, 1) := by decide +kernel
theorem dX7_finds_42 : decode cX7_finds 42 = .ok (.iload 5, 2) := by decide +kernel
theorem dX7_finds_44 : decode cX7_finds 44 = .ok (.iload 4, 2) := by decide +kernel
theorem dX7_finds_46 : decode cX7_finds 46 = .ok (.iconst 0, 1) := by decide +kernel
theorem dX7_finds_47 : decode cX7_finds 47 = .ok (.invokevirtual 98, 3) := by decide +kernel
theorem dX7_finds_50 : decode cX7_finds 50 = .ok (.i2l, 1) := by decide +kernel
theorem dX7_finds_51 : decode cX7_finds 51 = .ok (.lstore 6, 2) := by decide +kernel
theorem dX7_finds_53 : decode cX7_finds 53 = .ok (.aload_n 0, 1) := by decide +kernel
theorem dX7_finds_54 : decode cX7_finds 54 = .ok (.iload_n 1, 1) := by decide +kernel
theorem dX7_finds_55 : decode cX7_finds 55 = .ok (.iload_n 2, 1) := by decide +kernel
theorem dX7_finds_56 : decode cX7_finds 56 = .ok (.iload 5, 2) := by decide +kernel
theorem dX7_finds_58 : decode cX7_finds 58 = .ok (.iload 4, 2) := by decide +kernel
theorem dX7_finds_60 : decode cX7_finds 60 = .ok (.iconst 1, 1) := by decide +kernel
theorem dX7_finds_61 : decode cX7_finds 61 = .ok (.invokevirtual 98, 3) := by decide +kernel
theorem dX7_finds_64 : decode cX7_finds 64 = .ok (.i2l, 1) := by decide +kernel
theorem dX7_finds_65 : decode cX7_finds 65 = .ok (.lstore 8, 2) := by decide +kernel
theorem dX7_finds_67 : decode cX7_finds 67 = .ok (.lload 6, 2) := by decide +kernel
theorem dX7_finds_69 : decode cX7_finds 69 = .ok (.lload 6, 2) := by decide +kernel
theorem dX7_finds_71 : decode cX7_finds 71 = .ok (.lmul, 1) := by decide +kernel
theorem dX7_finds_72 : decode cX7_finds 72 = .ok (.lload 8, 2) := by decide +kernel
theorem dX7_finds_74 : decode cX7_finds 74 = .ok (.lload 8, 2) := by decide +kernel
theorem dX7_finds_76 : decode cX7_finds 76 = .ok (.lmul, 1) := by decide +kernel
theorem dX7_finds_77 : decode cX7_finds 77 = .ok (.ladd, 1) := by decide +kernel
theorem dX7_finds_78 : decode cX7_finds 78 = .ok (.lstore 10, 2) := by decide +kernel
theorem dX7_finds_80 : decode cX7_finds 80 = .ok (.lload 10, 2) := by decide +kernel
theorem dX7_finds_82 : decode cX7_finds 82 = .ok (.aload_n 0, 1) := by decide +kernel
theorem dX7_finds_83 : decode cX7_finds 83 = .ok (.getfield 104, 3) := by decide +kernel
theorem dX7_finds_86 : decode cX7_finds 86 = .ok (.lcmp, 1) := by decide +kernel
theorem dX7_finds_87 : decode cX7_finds 87 = .ok (.ifCond .le 30, 3) := by decide +kernel
theorem dX7_finds_90 : decode cX7_finds 90 = .ok (.aload_n 0, 1) := by decide +kernel
theorem dX7_finds_91 : decode cX7_finds 91 = .ok (.aload_n 0, 1) := by decide +kernel
theorem dX7_finds_92 : decode cX7_finds 92 = .ok (.getfield 104, 3) := by decide +kernel
theorem dX7_finds_95 : decode cX7_finds 95 = .ok (.putfield 108, 3) := by decide +kernel
theorem dX7_finds_98 : decode cX7_finds 98 = .ok (.aload_n 0, 1) := by decide +kernel
theorem dX7_finds_99 : decode cX7_finds 99 = .ok (.lload 10, 2) := by decide +kernel
theorem dX7_finds_101 : decode cX7_finds 101 = .ok (.putfield 104, 3) := by decide +kernel
theorem dX7_finds_104 : decode cX7_finds 104 = .ok (.sipush 1000, 3) := by decide +kernel
theorem dX7_finds_107 : decode cX7_finds 107 = .ok (.iload 4, 2) := by decide +kernel
theorem dX7_finds_109 : decode cX7_finds 109 = .ok (.imul, 1) := by decide +kernel
theorem dX7_finds_110 : decode cX7_finds 110 = .ok (.iload 5, 2) := by decide +kernel
theorem dX7_finds_112 : decode cX7_finds 112 = .ok (.iadd, 1) := by decide +kernel
theorem dX7_finds_113 : decode cX7_finds 113 = .ok (.istore_n 3, 1) := by decide +kernel
theorem dX7_finds_114 : decode cX7_finds 114 = .ok (.goto 19, 3) := by decide +kernel
theorem dX7_finds_117 : decode cX7_finds 117 = .ok (.lload 10, 2) := by decide +kernel
theorem dX7_finds_119 : decode cX7_finds 119 = .ok (.aload_n 0, 1) := by decide +kernel
theorem dX7_finds_120 : decode cX7_finds 120 = .ok (.getfield 108, 3) := by decide +kernel
theorem dX7_finds_123 : decode cX7_finds 123 = .ok (.lcmp, 1) := by decide +kernel
theorem dX7_finds_124 : decode cX7_finds 124 = .ok (.ifCond .le 9, 3) := by decide +kernel
theorem dX7_finds_127 : decode cX7_finds 127 = .ok (.aload_n 0, 1) := by decide +kernel
theorem dX7_finds_128 : decode cX7_finds 128 = .ok (.lload 10, 2) := by decide +kernel
theorem dX7_finds_130 : decode cX7_finds 130 = .ok (.putfield 108, 3) := by decide +kernel
theorem dX7_finds_133 : decode cX7_finds 133 = .ok (.iinc 5 1, 3) := by decide +kernel
theorem dX7_finds_136 : decode cX7_finds 136 = .ok (.goto (-108), 3) := by decide +kernel
theorem dX7_finds_139 : decode cX7_finds 139 = .ok (.iinc 4 1, 3) := by decide +kernel
theorem dX7_finds_142 : decode cX7_finds 142 = .ok (.goto (-123), 3) := by decide +kernel
theorem dX7_finds_145 : decode cX7_finds 145 = .ok (.iload_n 3, 1) := by decide +kernel
theorem dX7_finds_146 : decode cX7_finds 146 = .ok (.ireturn, 1) := by decide +kernel
set_option maxRecDepth 20000 in
theorem ggX7_refuses_X7_isRow : GoodIn wsX7_refuses wsX7_isRow := goodIn_r _ [5, 6, 7, 4, 8] (by decide +kernel) (by decide +kernel)
set_option maxRecDepth 20000 in
theorem gX7_refuses_X7_isRow : GoodIn wsX7_refuses (va_wsS RX7 55 yX7_isRow wsX7_isRow) := goodIn_app (goodIn_of _ (by decide +kernel)) ggX7_refuses_X7_isRow
set_option maxRecDepth 20000 in
theorem ggX7_refuses_X7_in : GoodIn wsX7_refuses wsX7_in := goodIn_r _ [8] (by decide +kernel) (by decide +kernel)
set_option maxRecDepth 20000 in
theorem gX7_refuses_X7_in : GoodIn wsX7_refuses (va_wsS RX7 51 yX7_in wsX7_in) := goodIn_app (goodIn_of _ (by decide +kernel)) ggX7_refuses_X7_in
theorem dX7_refuses_0 : decode cX7_refuses 0 = .ok (.iload_n 1, 1) := by decide +kernel
theorem dX7_refuses_1 : decode cX7_refuses 1 = .ok (.invokestatic 55, 3) := by decide +kernel
theorem dX7_refuses_4 : decode cX7_refuses 4 = .ok (.ifCond .eq 14, 3) := by decide +kernel
theorem dX7_refuses_7 : decode cX7_refuses 7 = .ok (.iload_n 2, 1) := by decide +kernel
theorem dX7_refuses_8 : decode cX7_refuses 8 = .ok (.iconst 0, 1) := by decide +kernel
theorem dX7_refuses_9 : decode cX7_refuses 9 = .ok (.sipush 300, 3) := by decide +kernel
theorem dX7_refuses_12 : decode cX7_refuses 12 = .ok (.invokestatic 51, 3) := by decide +kernel
theorem dX7_refuses_15 : decode cX7_refuses 15 = .ok (.ifCond .ne 8, 3) := by decide +kernel
theorem dX7_refuses_18 : decode cX7_refuses 18 = .ok (.bipush (-2), 2) := by decide +kernel
theorem dX7_refuses_20 : decode cX7_refuses 20 = .ok (.goto 18, 3) := by decide +kernel
theorem dX7_refuses_23 : decode cX7_refuses 23 = .ok (.aload_n 0, 1) := by decide +kernel
theorem dX7_refuses_24 : decode cX7_refuses 24 = .ok (.getfield 7, 3) := by decide +kernel
theorem dX7_refuses_27 : decode cX7_refuses 27 = .ok (.iload_n 1, 1) := by decide +kernel
theorem dX7_refuses_28 : decode cX7_refuses 28 = .ok (.iaload, 1) := by decide +kernel
theorem dX7_refuses_29 : decode cX7_refuses 29 = .ok (.ifCond .ne 8, 3) := by decide +kernel
theorem dX7_refuses_32 : decode cX7_refuses 32 = .ok (.bipush (-3), 2) := by decide +kernel
theorem dX7_refuses_34 : decode cX7_refuses 34 = .ok (.goto 4, 3) := by decide +kernel
theorem dX7_refuses_37 : decode cX7_refuses 37 = .ok (.iconst 0, 1) := by decide +kernel
theorem dX7_refuses_38 : decode cX7_refuses 38 = .ok (.ireturn, 1) := by decide +kernel
set_option maxRecDepth 20000 in
theorem ggX7_search_X7_refuses : GoodIn wsX7_search wsX7_refuses := goodIn_r _ [5, 6, 7, 8, 4, 9, 10, 11, 12, 36, 37, 38, 39, 40, 41, 42, 43, 44, 45, 46, 47, 48, 49, 50, 51, 52, 53, 54] (by decide +kernel) (by decide +kernel)
set_option maxRecDepth 20000 in
theorem gX7_search_X7_refuses : GoodIn wsX7_search (wsV RX7 111 RX7 yX7_refuses wsX7_refuses) := goodIn_app (goodIn_of _ (by decide +kernel)) ggX7_search_X7_refuses
set_option maxRecDepth 20000 in
theorem ggX7_search_X7_finds : GoodIn wsX7_search wsX7_finds := goodIn_r _ [16, 17, 18, 19, 6, 20, 21, 22, 4, 23, 24, 25, 26, 27, 28, 29, 30, 10, 11, 12, 31, 32, 33, 34, 35, 36, 37, 38, 39, 40, 41, 42, 43, 44, 45, 46, 47, 48, 49, 50, 51, 52, 53, 54] (by decide +kernel) (by decide +kernel)
set_option maxRecDepth 20000 in
theorem gX7_search_X7_finds : GoodIn wsX7_search (wsV RX7 114 RX7 yX7_finds wsX7_finds) := goodIn_app (goodIn_of _ (by decide +kernel)) ggX7_search_X7_finds
theorem dX7_search_0 : decode cX7_search 0 = .ok (.aload_n 0, 1) := by decide +kernel
theorem dX7_search_1 : decode cX7_search 1 = .ok (.iload_n 1, 1) := by decide +kernel
theorem dX7_search_2 : decode cX7_search 2 = .ok (.iload_n 2, 1) := by decide +kernel
theorem dX7_search_3 : decode cX7_search 3 = .ok (.invokevirtual 111, 3) := by decide +kernel
theorem dX7_search_6 : decode cX7_search 6 = .ok (.istore_n 3, 1) := by decide +kernel
theorem dX7_search_7 : decode cX7_search 7 = .ok (.iload_n 3, 1) := by decide +kernel
theorem dX7_search_8 : decode cX7_search 8 = .ok (.ifCond .eq 7, 3) := by decide +kernel
theorem dX7_search_11 : decode cX7_search 11 = .ok (.iload_n 3, 1) := by decide +kernel
theorem dX7_search_12 : decode cX7_search 12 = .ok (.goto 9, 3) := by decide +kernel
theorem dX7_search_15 : decode cX7_search 15 = .ok (.aload_n 0, 1) := by decide +kernel
theorem dX7_search_16 : decode cX7_search 16 = .ok (.iload_n 1, 1) := by decide +kernel
theorem dX7_search_17 : decode cX7_search 17 = .ok (.iload_n 2, 1) := by decide +kernel
theorem dX7_search_18 : decode cX7_search 18 = .ok (.invokevirtual 114, 3) := by decide +kernel
theorem dX7_search_21 : decode cX7_search 21 = .ok (.ireturn, 1) := by decide +kernel
set_option maxRecDepth 20000 in
theorem ggX7_sure_X7_refuses : GoodIn wsX7_sure wsX7_refuses := goodIn_r _ [9, 10, 11, 12, 8, 13, 14, 15, 16, 38, 39, 40, 41, 42, 43, 44, 45, 46, 47, 48, 49, 50, 51, 52, 53, 54, 55, 56] (by decide +kernel) (by decide +kernel)
set_option maxRecDepth 20000 in
theorem gX7_sure_X7_refuses : GoodIn wsX7_sure (wsV RX7 111 RX7 yX7_refuses wsX7_refuses) := goodIn_app (goodIn_of _ (by decide +kernel)) ggX7_sure_X7_refuses
set_option maxRecDepth 20000 in
theorem ggX7_sure_X7_finds : GoodIn wsX7_sure wsX7_finds := goodIn_r _ [20, 21, 1, 3, 10, 22, 23, 24, 8, 25, 26, 27, 28, 29, 30, 31, 32, 14, 15, 16, 33, 34, 35, 36, 37, 38, 39, 40, 41, 42, 43, 44, 45, 46, 47, 48, 49, 50, 51, 52, 53, 54, 55, 56] (by decide +kernel) (by decide +kernel)
set_option maxRecDepth 20000 in
theorem gX7_sure_X7_finds : GoodIn wsX7_sure (wsV RX7 114 RX7 yX7_finds wsX7_finds) := goodIn_app (goodIn_of _ (by decide +kernel)) ggX7_sure_X7_finds
theorem dX7_sure_0 : decode cX7_sure 0 = .ok (.aload_n 0, 1) := by decide +kernel
theorem dX7_sure_1 : decode cX7_sure 1 = .ok (.iload_n 1, 1) := by decide +kernel
theorem dX7_sure_2 : decode cX7_sure 2 = .ok (.iload_n 2, 1) := by decide +kernel
theorem dX7_sure_3 : decode cX7_sure 3 = .ok (.invokevirtual 111, 3) := by decide +kernel
theorem dX7_sure_6 : decode cX7_sure 6 = .ok (.istore_n 3, 1) := by decide +kernel
theorem dX7_sure_7 : decode cX7_sure 7 = .ok (.iload_n 3, 1) := by decide +kernel
theorem dX7_sure_8 : decode cX7_sure 8 = .ok (.ifCond .eq 5, 3) := by decide +kernel
theorem dX7_sure_11 : decode cX7_sure 11 = .ok (.iload_n 3, 1) := by decide +kernel
theorem dX7_sure_12 : decode cX7_sure 12 = .ok (.ireturn, 1) := by decide +kernel
theorem dX7_sure_13 : decode cX7_sure 13 = .ok (.aload_n 0, 1) := by decide +kernel
theorem dX7_sure_14 : decode cX7_sure 14 = .ok (.iload_n 1, 1) := by decide +kernel
theorem dX7_sure_15 : decode cX7_sure 15 = .ok (.iload_n 2, 1) := by decide +kernel
theorem dX7_sure_16 : decode cX7_sure 16 = .ok (.invokevirtual 114, 3) := by decide +kernel
theorem dX7_sure_19 : decode cX7_sure 19 = .ok (.istore 4, 2) := by decide +kernel
theorem dX7_sure_21 : decode cX7_sure 21 = .ok (.aload_n 0, 1) := by decide +kernel
theorem dX7_sure_22 : decode cX7_sure 22 = .ok (.getfield 104, 3) := by decide +kernel
theorem dX7_sure_25 : decode cX7_sure 25 = .ok (.lconst 0, 1) := by decide +kernel
theorem dX7_sure_26 : decode cX7_sure 26 = .ok (.lcmp, 1) := by decide +kernel
theorem dX7_sure_27 : decode cX7_sure 27 = .ok (.ifCond .le 29, 3) := by decide +kernel
theorem dX7_sure_30 : decode cX7_sure 30 = .ok (.ldc2_w 117, 3) := by decide +kernel
theorem dX7_sure_33 : decode cX7_sure 33 = .ok (.aload_n 0, 1) := by decide +kernel
theorem dX7_sure_34 : decode cX7_sure 34 = .ok (.getfield 108, 3) := by decide +kernel
theorem dX7_sure_37 : decode cX7_sure 37 = .ok (.lmul, 1) := by decide +kernel
theorem dX7_sure_38 : decode cX7_sure 38 = .ok (.aload_n 0, 1) := by decide +kernel
theorem dX7_sure_39 : decode cX7_sure 39 = .ok (.getfield 19, 3) := by decide +kernel
theorem dX7_sure_42 : decode cX7_sure 42 = .ok (.i2l, 1) := by decide +kernel
theorem dX7_sure_43 : decode cX7_sure 43 = .ok (.aload_n 0, 1) := by decide +kernel
theorem dX7_sure_44 : decode cX7_sure 44 = .ok (.getfield 104, 3) := by decide +kernel
theorem dX7_sure_47 : decode cX7_sure 47 = .ok (.lmul, 1) := by decide +kernel
theorem dX7_sure_48 : decode cX7_sure 48 = .ok (.lcmp, 1) := by decide +kernel
theorem dX7_sure_49 : decode cX7_sure 49 = .ok (.ifCond .gt 7, 3) := by decide +kernel
theorem dX7_sure_52 : decode cX7_sure 52 = .ok (.iconst 1, 1) := by decide +kernel
theorem dX7_sure_53 : decode cX7_sure 53 = .ok (.goto 4, 3) := by decide +kernel
theorem dX7_sure_56 : decode cX7_sure 56 = .ok (.iconst 0, 1) := by decide +kernel
theorem dX7_sure_57 : decode cX7_sure 57 = .ok (.ireturn, 1) := by decide +kernel
set_option maxRecDepth 20000 in
theorem ggX7_power_X7_refuses : GoodIn wsX7_power wsX7_refuses := goodIn_r _ [7, 8, 9, 10, 6, 11, 12, 13, 14, 37, 38, 39, 40, 41, 42, 43, 44, 45, 46, 47, 48, 49, 50, 51, 52, 53, 54, 55] (by decide +kernel) (by decide +kernel)
set_option maxRecDepth 20000 in
theorem gX7_power_X7_refuses : GoodIn wsX7_power (wsV RX7 111 RX7 yX7_refuses wsX7_refuses) := goodIn_app (goodIn_of _ (by decide +kernel)) ggX7_power_X7_refuses
set_option maxRecDepth 20000 in
theorem ggX7_power_X7_finds : GoodIn wsX7_power wsX7_finds := goodIn_r _ [18, 19, 2, 20, 8, 21, 22, 23, 6, 24, 25, 26, 27, 28, 29, 30, 31, 12, 13, 14, 32, 33, 34, 35, 36, 37, 38, 39, 40, 41, 42, 43, 44, 45, 46, 47, 48, 49, 50, 51, 52, 53, 54, 55] (by decide +kernel) (by decide +kernel)
set_option maxRecDepth 20000 in
theorem gX7_power_X7_finds : GoodIn wsX7_power (wsV RX7 114 RX7 yX7_finds wsX7_finds) := goodIn_app (goodIn_of _ (by decide +kernel)) ggX7_power_X7_finds
theorem dX7_power_0 : decode cX7_power 0 = .ok (.aload_n 0, 1) := by decide +kernel
theorem dX7_power_1 : decode cX7_power 1 = .ok (.iload_n 1, 1) := by decide +kernel
theorem dX7_power_2 : decode cX7_power 2 = .ok (.iload_n 2, 1) := by decide +kernel
theorem dX7_power_3 : decode cX7_power 3 = .ok (.invokevirtual 111, 3) := by decide +kernel
theorem dX7_power_6 : decode cX7_power 6 = .ok (.istore_n 3, 1) := by decide +kernel
theorem dX7_power_7 : decode cX7_power 7 = .ok (.iload_n 3, 1) := by decide +kernel
theorem dX7_power_8 : decode cX7_power 8 = .ok (.ifCond .eq 10, 3) := by decide +kernel
theorem dX7_power_11 : decode cX7_power 11 = .ok (.ldc2_w 119, 3) := by decide +kernel
theorem dX7_power_14 : decode cX7_power 14 = .ok (.iload_n 3, 1) := by decide +kernel
theorem dX7_power_15 : decode cX7_power 15 = .ok (.i2l, 1) := by decide +kernel
theorem dX7_power_16 : decode cX7_power 16 = .ok (.lsub, 1) := by decide +kernel
theorem dX7_power_17 : decode cX7_power 17 = .ok (.lreturn, 1) := by decide +kernel
theorem dX7_power_18 : decode cX7_power 18 = .ok (.aload_n 0, 1) := by decide +kernel
theorem dX7_power_19 : decode cX7_power 19 = .ok (.iload_n 1, 1) := by decide +kernel
theorem dX7_power_20 : decode cX7_power 20 = .ok (.iload_n 2, 1) := by decide +kernel
theorem dX7_power_21 : decode cX7_power 21 = .ok (.invokevirtual 114, 3) := by decide +kernel
theorem dX7_power_24 : decode cX7_power 24 = .ok (.istore 4, 2) := by decide +kernel
theorem dX7_power_26 : decode cX7_power 26 = .ok (.aload_n 0, 1) := by decide +kernel
theorem dX7_power_27 : decode cX7_power 27 = .ok (.getfield 104, 3) := by decide +kernel
theorem dX7_power_30 : decode cX7_power 30 = .ok (.lreturn, 1) := by decide +kernel
set_option maxRecDepth 20000 in
theorem ggX7_doubt_X7_in : GoodIn wsX7_doubt wsX7_in := goodIn_r _ [5] (by decide +kernel) (by decide +kernel)
set_option maxRecDepth 20000 in
theorem gX7_doubt_X7_in : GoodIn wsX7_doubt (va_wsS RX7 51 yX7_in wsX7_in) := goodIn_app (goodIn_of _ (by decide +kernel)) ggX7_doubt_X7_in
theorem dX7_doubt_0 : decode cX7_doubt 0 = .ok (.iload_n 1, 1) := by decide +kernel
theorem dX7_doubt_1 : decode cX7_doubt 1 = .ok (.iconst 0, 1) := by decide +kernel
theorem dX7_doubt_2 : decode cX7_doubt 2 = .ok (.bipush 100, 2) := by decide +kernel
theorem dX7_doubt_4 : decode cX7_doubt 4 = .ok (.invokestatic 51, 3) := by decide +kernel
theorem dX7_doubt_7 : decode cX7_doubt 7 = .ok (.ifCond .ne 6, 3) := by decide +kernel
theorem dX7_doubt_10 : decode cX7_doubt 10 = .ok (.bipush (-2), 2) := by decide +kernel
theorem dX7_doubt_12 : decode cX7_doubt 12 = .ok (.ireturn, 1) := by decide +kernel
theorem dX7_doubt_13 : decode cX7_doubt 13 = .ok (.aload_n 0, 1) := by decide +kernel
theorem dX7_doubt_14 : decode cX7_doubt 14 = .ok (.getfield 19, 3) := by decide +kernel
theorem dX7_doubt_17 : decode cX7_doubt 17 = .ok (.istore_n 2, 1) := by decide +kernel
theorem dX7_doubt_18 : decode cX7_doubt 18 = .ok (.aload_n 0, 1) := by decide +kernel
theorem dX7_doubt_19 : decode cX7_doubt 19 = .ok (.iload_n 1, 1) := by decide +kernel
theorem dX7_doubt_20 : decode cX7_doubt 20 = .ok (.putfield 19, 3) := by decide +kernel
theorem dX7_doubt_23 : decode cX7_doubt 23 = .ok (.iload_n 2, 1) := by decide +kernel
theorem dX7_doubt_24 : decode cX7_doubt 24 = .ok (.ireturn, 1) := by decide +kernel
set_option maxRecDepth 20000 in
theorem ggX7_peel_X7_in : GoodIn wsX7_peel wsX7_in := goodIn_r _ [8] (by decide +kernel) (by decide +kernel)
set_option maxRecDepth 20000 in
theorem gX7_peel_X7_in : GoodIn wsX7_peel (va_wsS RX7 51 yX7_in wsX7_in) := goodIn_app (goodIn_of _ (by decide +kernel)) ggX7_peel_X7_in
set_option maxRecDepth 20000 in
theorem ggX7_peel_X7_sample : GoodIn wsX7_peel wsX7_sample := goodIn_r _ [12, 13, 14, 15, 5, 6, 7, 8, 26, 27, 28, 29, 30, 31, 32, 33, 34, 35, 36, 37, 38, 39, 40, 41, 42, 43, 44] (by decide +kernel) (by decide +kernel)
set_option maxRecDepth 20000 in
theorem gX7_peel_X7_sample : GoodIn wsX7_peel (wsV RX7 94 RX7 yX7_sample wsX7_sample) := goodIn_app (goodIn_of _ (by decide +kernel)) ggX7_peel_X7_sample
set_option maxRecDepth 20000 in
theorem ggX7_peel_X7_takesOff : GoodIn wsX7_peel wsX7_takesOff := goodIn_r _ [19, 1, 2, 20, 3, 21, 22, 23, 7, 24, 25, 26, 27, 28, 29, 30, 31, 32, 33, 34, 35, 36, 37, 38, 39, 40, 41, 42, 43, 44] (by decide +kernel) (by decide +kernel)
set_option maxRecDepth 20000 in
theorem gX7_peel_X7_takesOff : GoodIn wsX7_peel (wsV RX7 124 RX7 yX7_takesOff wsX7_takesOff) := goodIn_app (goodIn_of _ (by decide +kernel)) ggX7_peel_X7_takesOff
theorem dX7_peel_0 : decode cX7_peel 0 = .ok (.iload_n 1, 1) := by decide +kernel
theorem dX7_peel_1 : decode cX7_peel 1 = .ok (.iconst 0, 1) := by decide +kernel
theorem dX7_peel_2 : decode cX7_peel 2 = .ok (.sipush 300, 3) := by decide +kernel
theorem dX7_peel_5 : decode cX7_peel 5 = .ok (.invokestatic 51, 3) := by decide +kernel
theorem dX7_peel_8 : decode cX7_peel 8 = .ok (.ifCond .eq 13, 3) := by decide +kernel
theorem dX7_peel_11 : decode cX7_peel 11 = .ok (.iload_n 2, 1) := by decide +kernel
theorem dX7_peel_12 : decode cX7_peel 12 = .ok (.iconst 1, 1) := by decide +kernel
theorem dX7_peel_13 : decode cX7_peel 13 = .ok (.bipush 127, 2) := by decide +kernel
theorem dX7_peel_15 : decode cX7_peel 15 = .ok (.invokestatic 51, 3) := by decide +kernel
theorem dX7_peel_18 : decode cX7_peel 18 = .ok (.ifCond .ne 6, 3) := by decide +kernel
theorem dX7_peel_21 : decode cX7_peel 21 = .ok (.bipush (-2), 2) := by decide +kernel
theorem dX7_peel_23 : decode cX7_peel 23 = .ok (.ireturn, 1) := by decide +kernel
theorem dX7_peel_24 : decode cX7_peel 24 = .ok (.iconst 0, 1) := by decide +kernel
theorem dX7_peel_25 : decode cX7_peel 25 = .ok (.istore_n 3, 1) := by decide +kernel
theorem dX7_peel_26 : decode cX7_peel 26 = .ok (.iconst 0, 1) := by decide +kernel
theorem dX7_peel_27 : decode cX7_peel 27 = .ok (.istore 4, 2) := by decide +kernel
theorem dX7_peel_29 : decode cX7_peel 29 = .ok (.iload 4, 2) := by decide +kernel
theorem dX7_peel_31 : decode cX7_peel 31 = .ok (.bipush 8, 2) := by decide +kernel
theorem dX7_peel_33 : decode cX7_peel 33 = .ok (.if_icmp .ge 28, 3) := by decide +kernel
theorem dX7_peel_36 : decode cX7_peel 36 = .ok (.iload_n 3, 1) := by decide +kernel
theorem dX7_peel_37 : decode cX7_peel 37 = .ok (.aload_n 0, 1) := by decide +kernel
theorem dX7_peel_38 : decode cX7_peel 38 = .ok (.getfield 7, 3) := by decide +kernel
theorem dX7_peel_41 : decode cX7_peel 41 = .ok (.iload 4, 2) := by decide +kernel
theorem dX7_peel_43 : decode cX7_peel 43 = .ok (.iaload, 1) := by decide +kernel
theorem dX7_peel_44 : decode cX7_peel 44 = .ok (.iload_n 2, 1) := by decide +kernel
theorem dX7_peel_45 : decode cX7_peel 45 = .ok (.if_icmp .ne 7, 3) := by decide +kernel
theorem dX7_peel_48 : decode cX7_peel 48 = .ok (.iconst 1, 1) := by decide +kernel
theorem dX7_peel_49 : decode cX7_peel 49 = .ok (.goto 4, 3) := by decide +kernel
theorem dX7_peel_52 : decode cX7_peel 52 = .ok (.iconst 0, 1) := by decide +kernel
theorem dX7_peel_53 : decode cX7_peel 53 = .ok (.ior, 1) := by decide +kernel
theorem dX7_peel_54 : decode cX7_peel 54 = .ok (.istore_n 3, 1) := by decide +kernel
theorem dX7_peel_55 : decode cX7_peel 55 = .ok (.iinc 4 1, 3) := by decide +kernel
theorem dX7_peel_58 : decode cX7_peel 58 = .ok (.goto (-29), 3) := by decide +kernel
theorem dX7_peel_61 : decode cX7_peel 61 = .ok (.iload_n 3, 1) := by decide +kernel
theorem dX7_peel_62 : decode cX7_peel 62 = .ok (.ifCond .ne 6, 3) := by decide +kernel
theorem dX7_peel_65 : decode cX7_peel 65 = .ok (.bipush (-3), 2) := by decide +kernel
theorem dX7_peel_67 : decode cX7_peel 67 = .ok (.ireturn, 1) := by decide +kernel
theorem dX7_peel_68 : decode cX7_peel 68 = .ok (.iconst 0, 1) := by decide +kernel
theorem dX7_peel_69 : decode cX7_peel 69 = .ok (.istore 4, 2) := by decide +kernel
theorem dX7_peel_71 : decode cX7_peel 71 = .ok (.iload 4, 2) := by decide +kernel
theorem dX7_peel_73 : decode cX7_peel 73 = .ok (.iload_n 2, 1) := by decide +kernel
theorem dX7_peel_74 : decode cX7_peel 74 = .ok (.if_icmp .ge 25, 3) := by decide +kernel
theorem dX7_peel_77 : decode cX7_peel 77 = .ok (.aload_n 0, 1) := by decide +kernel
theorem dX7_peel_78 : decode cX7_peel 78 = .ok (.getfield 26, 3) := by decide +kernel
theorem dX7_peel_81 : decode cX7_peel 81 = .ok (.iload 4, 2) := by decide +kernel
theorem dX7_peel_83 : decode cX7_peel 83 = .ok (.aload_n 0, 1) := by decide +kernel
theorem dX7_peel_84 : decode cX7_peel 84 = .ok (.iconst 0, 1) := by decide +kernel
theorem dX7_peel_85 : decode cX7_peel 85 = .ok (.iload_n 1, 1) := by decide +kernel
theorem dX7_peel_86 : decode cX7_peel 86 = .ok (.iload 4, 2) := by decide +kernel
theorem dX7_peel_88 : decode cX7_peel 88 = .ok (.iadd, 1) := by decide +kernel
theorem dX7_peel_89 : decode cX7_peel 89 = .ok (.invokevirtual 94, 3) := by decide +kernel
theorem dX7_peel_92 : decode cX7_peel 92 = .ok (.iastore, 1) := by decide +kernel
theorem dX7_peel_93 : decode cX7_peel 93 = .ok (.iinc 4 1, 3) := by decide +kernel
theorem dX7_peel_96 : decode cX7_peel 96 = .ok (.goto (-25), 3) := by decide +kernel
theorem dX7_peel_99 : decode cX7_peel 99 = .ok (.aload_n 0, 1) := by decide +kernel
theorem dX7_peel_100 : decode cX7_peel 100 = .ok (.iconst 0, 1) := by decide +kernel
theorem dX7_peel_101 : decode cX7_peel 101 = .ok (.putfield 121, 3) := by decide +kernel
theorem dX7_peel_104 : decode cX7_peel 104 = .ok (.aload_n 0, 1) := by decide +kernel
theorem dX7_peel_105 : decode cX7_peel 105 = .ok (.getfield 121, 3) := by decide +kernel
theorem dX7_peel_108 : decode cX7_peel 108 = .ok (.bipush 20, 2) := by decide +kernel
theorem dX7_peel_110 : decode cX7_peel 110 = .ok (.if_icmp .ge 24, 3) := by decide +kernel
theorem dX7_peel_113 : decode cX7_peel 113 = .ok (.aload_n 0, 1) := by decide +kernel
theorem dX7_peel_114 : decode cX7_peel 114 = .ok (.iload_n 2, 1) := by decide +kernel
theorem dX7_peel_115 : decode cX7_peel 115 = .ok (.invokevirtual 124, 3) := by decide +kernel
theorem dX7_peel_118 : decode cX7_peel 118 = .ok (.ifCond .eq 16, 3) := by decide +kernel
theorem dX7_peel_121 : decode cX7_peel 121 = .ok (.aload_n 0, 1) := by decide +kernel
theorem dX7_peel_122 : decode cX7_peel 122 = .ok (.dup, 1) := by decide +kernel
theorem dX7_peel_123 : decode cX7_peel 123 = .ok (.getfield 121, 3) := by decide +kernel
theorem dX7_peel_126 : decode cX7_peel 126 = .ok (.iconst 1, 1) := by decide +kernel
theorem dX7_peel_127 : decode cX7_peel 127 = .ok (.iadd, 1) := by decide +kernel
theorem dX7_peel_128 : decode cX7_peel 128 = .ok (.putfield 121, 3) := by decide +kernel
theorem dX7_peel_131 : decode cX7_peel 131 = .ok (.goto (-27), 3) := by decide +kernel
theorem dX7_peel_134 : decode cX7_peel 134 = .ok (.aload_n 0, 1) := by decide +kernel
theorem dX7_peel_135 : decode cX7_peel 135 = .ok (.lconst 0, 1) := by decide +kernel
theorem dX7_peel_136 : decode cX7_peel 136 = .ok (.putfield 127, 3) := by decide +kernel
theorem dX7_peel_139 : decode cX7_peel 139 = .ok (.iconst 0, 1) := by decide +kernel
theorem dX7_peel_140 : decode cX7_peel 140 = .ok (.istore 4, 2) := by decide +kernel
theorem dX7_peel_142 : decode cX7_peel 142 = .ok (.iload 4, 2) := by decide +kernel
theorem dX7_peel_144 : decode cX7_peel 144 = .ok (.iload_n 2, 1) := by decide +kernel
theorem dX7_peel_145 : decode cX7_peel 145 = .ok (.if_icmp .ge 35, 3) := by decide +kernel
theorem dX7_peel_148 : decode cX7_peel 148 = .ok (.aload_n 0, 1) := by decide +kernel
theorem dX7_peel_149 : decode cX7_peel 149 = .ok (.dup, 1) := by decide +kernel
theorem dX7_peel_150 : decode cX7_peel 150 = .ok (.getfield 127, 3) := by decide +kernel
theorem dX7_peel_153 : decode cX7_peel 153 = .ok (.aload_n 0, 1) := by decide +kernel
theorem dX7_peel_154 : decode cX7_peel 154 = .ok (.getfield 26, 3) := by decide +kernel
theorem dX7_peel_157 : decode cX7_peel 157 = .ok (.iload 4, 2) := by decide +kernel
theorem dX7_peel_159 : decode cX7_peel 159 = .ok (.iaload, 1) := by decide +kernel
theorem dX7_peel_160 : decode cX7_peel 160 = .ok (.i2l, 1) := by decide +kernel
theorem dX7_peel_161 : decode cX7_peel 161 = .ok (.aload_n 0, 1) := by decide +kernel
theorem dX7_peel_162 : decode cX7_peel 162 = .ok (.getfield 26, 3) := by decide +kernel
theorem dX7_peel_165 : decode cX7_peel 165 = .ok (.iload 4, 2) := by decide +kernel
theorem dX7_peel_167 : decode cX7_peel 167 = .ok (.iaload, 1) := by decide +kernel
theorem dX7_peel_168 : decode cX7_peel 168 = .ok (.i2l, 1) := by decide +kernel
theorem dX7_peel_169 : decode cX7_peel 169 = .ok (.lmul, 1) := by decide +kernel
theorem dX7_peel_170 : decode cX7_peel 170 = .ok (.ladd, 1) := by decide +kernel
theorem dX7_peel_171 : decode cX7_peel 171 = .ok (.putfield 127, 3) := by decide +kernel
theorem dX7_peel_174 : decode cX7_peel 174 = .ok (.iinc 4 1, 3) := by decide +kernel
theorem dX7_peel_177 : decode cX7_peel 177 = .ok (.goto (-35), 3) := by decide +kernel
theorem dX7_peel_180 : decode cX7_peel 180 = .ok (.aload_n 0, 1) := by decide +kernel
theorem dX7_peel_181 : decode cX7_peel 181 = .ok (.getfield 121, 3) := by decide +kernel
theorem dX7_peel_184 : decode cX7_peel 184 = .ok (.ireturn, 1) := by decide +kernel
set_option maxRecDepth 20000 in
theorem ggX7_takesOff_X7_signOf : GoodIn wsX7_takesOff wsX7_signOf := goodIn_r _ [9, 10, 1, 11, 12, 13, 14, 15, 16, 17, 18, 19, 20, 21, 22, 23, 24, 25, 26, 27, 28, 29] (by decide +kernel) (by decide +kernel)
set_option maxRecDepth 20000 in
theorem gX7_takesOff_X7_signOf : GoodIn wsX7_takesOff (wsV RX7 80 RX7 yX7_signOf wsX7_signOf) := goodIn_app (goodIn_of _ (by decide +kernel)) ggX7_takesOff_X7_signOf
theorem dX7_takesOff_0 : decode cX7_takesOff 0 = .ok (.iconst (-1), 1) := by decide +kernel
theorem dX7_takesOff_1 : decode cX7_takesOff 1 = .ok (.istore_n 2, 1) := by decide +kernel
theorem dX7_takesOff_2 : decode cX7_takesOff 2 = .ok (.iconst 0, 1) := by decide +kernel
theorem dX7_takesOff_3 : decode cX7_takesOff 3 = .ok (.istore_n 3, 1) := by decide +kernel
theorem dX7_takesOff_4 : decode cX7_takesOff 4 = .ok (.iconst 0, 1) := by decide +kernel
theorem dX7_takesOff_5 : decode cX7_takesOff 5 = .ok (.istore 4, 2) := by decide +kernel
theorem dX7_takesOff_7 : decode cX7_takesOff 7 = .ok (.iconst 0, 1) := by decide +kernel
theorem dX7_takesOff_8 : decode cX7_takesOff 8 = .ok (.istore 5, 2) := by decide +kernel
theorem dX7_takesOff_10 : decode cX7_takesOff 10 = .ok (.iconst 0, 1) := by decide +kernel
theorem dX7_takesOff_11 : decode cX7_takesOff 11 = .ok (.istore 6, 2) := by decide +kernel
theorem dX7_takesOff_13 : decode cX7_takesOff 13 = .ok (.iload 6, 2) := by decide +kernel
theorem dX7_takesOff_15 : decode cX7_takesOff 15 = .ok (.bipush 8, 2) := by decide +kernel
theorem dX7_takesOff_17 : decode cX7_takesOff 17 = .ok (.if_icmp .ge 112, 3) := by decide +kernel
theorem dX7_takesOff_20 : decode cX7_takesOff 20 = .ok (.iconst 0, 1) := by decide +kernel
theorem dX7_takesOff_21 : decode cX7_takesOff 21 = .ok (.istore 7, 2) := by decide +kernel
theorem dX7_takesOff_23 : decode cX7_takesOff 23 = .ok (.iload 7, 2) := by decide +kernel
theorem dX7_takesOff_25 : decode cX7_takesOff 25 = .ok (.iload_n 1, 1) := by decide +kernel
theorem dX7_takesOff_26 : decode cX7_takesOff 26 = .ok (.if_icmp .ge 97, 3) := by decide +kernel
theorem dX7_takesOff_29 : decode cX7_takesOff 29 = .ok (.aload_n 0, 1) := by decide +kernel
theorem dX7_takesOff_30 : decode cX7_takesOff 30 = .ok (.getfield 7, 3) := by decide +kernel
theorem dX7_takesOff_33 : decode cX7_takesOff 33 = .ok (.iload 6, 2) := by decide +kernel
theorem dX7_takesOff_35 : decode cX7_takesOff 35 = .ok (.iaload, 1) := by decide +kernel
theorem dX7_takesOff_36 : decode cX7_takesOff 36 = .ok (.iload_n 1, 1) := by decide +kernel
theorem dX7_takesOff_37 : decode cX7_takesOff 37 = .ok (.if_icmp .ne 86, 3) := by decide +kernel
theorem dX7_takesOff_40 : decode cX7_takesOff 40 = .ok (.iconst 0, 1) := by decide +kernel
theorem dX7_takesOff_41 : decode cX7_takesOff 41 = .ok (.istore 8, 2) := by decide +kernel
theorem dX7_takesOff_43 : decode cX7_takesOff 43 = .ok (.iconst 0, 1) := by decide +kernel
theorem dX7_takesOff_44 : decode cX7_takesOff 44 = .ok (.istore 9, 2) := by decide +kernel
theorem dX7_takesOff_46 : decode cX7_takesOff 46 = .ok (.iload 9, 2) := by decide +kernel
theorem dX7_takesOff_48 : decode cX7_takesOff 48 = .ok (.iload_n 1, 1) := by decide +kernel
theorem dX7_takesOff_49 : decode cX7_takesOff 49 = .ok (.if_icmp .ge 33, 3) := by decide +kernel
theorem dX7_takesOff_52 : decode cX7_takesOff 52 = .ok (.iload 8, 2) := by decide +kernel
theorem dX7_takesOff_54 : decode cX7_takesOff 54 = .ok (.aload_n 0, 1) := by decide +kernel
theorem dX7_takesOff_55 : decode cX7_takesOff 55 = .ok (.iload 6, 2) := by decide +kernel
theorem dX7_takesOff_57 : decode cX7_takesOff 57 = .ok (.iload 9, 2) := by decide +kernel
theorem dX7_takesOff_59 : decode cX7_takesOff 59 = .ok (.iload 7, 2) := by decide +kernel
theorem dX7_takesOff_61 : decode cX7_takesOff 61 = .ok (.iadd, 1) := by decide +kernel
theorem dX7_takesOff_62 : decode cX7_takesOff 62 = .ok (.invokevirtual 80, 3) := by decide +kernel
theorem dX7_takesOff_65 : decode cX7_takesOff 65 = .ok (.aload_n 0, 1) := by decide +kernel
theorem dX7_takesOff_66 : decode cX7_takesOff 66 = .ok (.getfield 26, 3) := by decide +kernel
theorem dX7_takesOff_69 : decode cX7_takesOff 69 = .ok (.iload 9, 2) := by decide +kernel
theorem dX7_takesOff_71 : decode cX7_takesOff 71 = .ok (.iaload, 1) := by decide +kernel
theorem dX7_takesOff_72 : decode cX7_takesOff 72 = .ok (.imul, 1) := by decide +kernel
theorem dX7_takesOff_73 : decode cX7_takesOff 73 = .ok (.iadd, 1) := by decide +kernel
theorem dX7_takesOff_74 : decode cX7_takesOff 74 = .ok (.istore 8, 2) := by decide +kernel
theorem dX7_takesOff_76 : decode cX7_takesOff 76 = .ok (.iinc 9 1, 3) := by decide +kernel
theorem dX7_takesOff_79 : decode cX7_takesOff 79 = .ok (.goto (-33), 3) := by decide +kernel
theorem dX7_takesOff_82 : decode cX7_takesOff 82 = .ok (.iload 8, 2) := by decide +kernel
theorem dX7_takesOff_84 : decode cX7_takesOff 84 = .ok (.ifCond .ge 9, 3) := by decide +kernel
theorem dX7_takesOff_87 : decode cX7_takesOff 87 = .ok (.iload 8, 2) := by decide +kernel
theorem dX7_takesOff_89 : decode cX7_takesOff 89 = .ok (.ineg, 1) := by decide +kernel
theorem dX7_takesOff_90 : decode cX7_takesOff 90 = .ok (.goto 5, 3) := by decide +kernel
theorem dX7_takesOff_93 : decode cX7_takesOff 93 = .ok (.iload 8, 2) := by decide +kernel
theorem dX7_takesOff_95 : decode cX7_takesOff 95 = .ok (.istore 9, 2) := by decide +kernel
theorem dX7_takesOff_97 : decode cX7_takesOff 97 = .ok (.iload 9, 2) := by decide +kernel
theorem dX7_takesOff_99 : decode cX7_takesOff 99 = .ok (.iload_n 2, 1) := by decide +kernel
theorem dX7_takesOff_100 : decode cX7_takesOff 100 = .ok (.if_icmp .le 17, 3) := by decide +kernel
theorem dX7_takesOff_103 : decode cX7_takesOff 103 = .ok (.iload 9, 2) := by decide +kernel
end
section
theorem dX7_takesOff_105 : decode cX7_takesOff 105 = .ok (.istore_n 2, 1) := by decide +kernel
theorem dX7_takesOff_106 : decode cX7_takesOff 106 = .ok (.iload 6, 2) := by decide +kernel
theorem dX7_takesOff_108 : decode cX7_takesOff 108 = .ok (.istore_n 3, 1) := by decide +kernel
theorem dX7_takesOff_109 : decode cX7_takesOff 109 = .ok (.iload 7, 2) := by decide +kernel
theorem dX7_takesOff_111 : decode cX7_takesOff 111 = .ok (.istore 4, 2) := by decide +kernel
theorem dX7_takesOff_113 : decode cX7_takesOff 113 = .ok (.iload 8, 2) := by decide +kernel
theorem dX7_takesOff_115 : decode cX7_takesOff 115 = .ok (.istore 5, 2) := by decide +kernel
theorem dX7_takesOff_117 : decode cX7_takesOff 117 = .ok (.iinc 7 1, 3) := by decide +kernel
theorem dX7_takesOff_120 : decode cX7_takesOff 120 = .ok (.goto (-97), 3) := by decide +kernel
theorem dX7_takesOff_123 : decode cX7_takesOff 123 = .ok (.iinc 6 1, 3) := by decide +kernel
theorem dX7_takesOff_126 : decode cX7_takesOff 126 = .ok (.goto (-113), 3) := by decide +kernel
theorem dX7_takesOff_129 : decode cX7_takesOff 129 = .ok (.iconst 2, 1) := by decide +kernel
theorem dX7_takesOff_130 : decode cX7_takesOff 130 = .ok (.iload 5, 2) := by decide +kernel
theorem dX7_takesOff_132 : decode cX7_takesOff 132 = .ok (.imul, 1) := by decide +kernel
theorem dX7_takesOff_133 : decode cX7_takesOff 133 = .ok (.iload_n 1, 1) := by decide +kernel
theorem dX7_takesOff_134 : decode cX7_takesOff 134 = .ok (.iadd, 1) := by decide +kernel
theorem dX7_takesOff_135 : decode cX7_takesOff 135 = .ok (.istore 6, 2) := by decide +kernel
theorem dX7_takesOff_137 : decode cX7_takesOff 137 = .ok (.iload 6, 2) := by decide +kernel
theorem dX7_takesOff_139 : decode cX7_takesOff 139 = .ok (.iconst 2, 1) := by decide +kernel
theorem dX7_takesOff_140 : decode cX7_takesOff 140 = .ok (.iload_n 1, 1) := by decide +kernel
theorem dX7_takesOff_141 : decode cX7_takesOff 141 = .ok (.imul, 1) := by decide +kernel
theorem dX7_takesOff_142 : decode cX7_takesOff 142 = .ok (.idiv, 1) := by decide +kernel
theorem dX7_takesOff_143 : decode cX7_takesOff 143 = .ok (.iload 6, 2) := by decide +kernel
theorem dX7_takesOff_145 : decode cX7_takesOff 145 = .ok (.iconst 2, 1) := by decide +kernel
theorem dX7_takesOff_146 : decode cX7_takesOff 146 = .ok (.iload_n 1, 1) := by decide +kernel
theorem dX7_takesOff_147 : decode cX7_takesOff 147 = .ok (.imul, 1) := by decide +kernel
theorem dX7_takesOff_148 : decode cX7_takesOff 148 = .ok (.irem, 1) := by decide +kernel
theorem dX7_takesOff_149 : decode cX7_takesOff 149 = .ok (.ifCond .ge 7, 3) := by decide +kernel
theorem dX7_takesOff_152 : decode cX7_takesOff 152 = .ok (.iconst 1, 1) := by decide +kernel
theorem dX7_takesOff_153 : decode cX7_takesOff 153 = .ok (.goto 4, 3) := by decide +kernel
theorem dX7_takesOff_156 : decode cX7_takesOff 156 = .ok (.iconst 0, 1) := by decide +kernel
theorem dX7_takesOff_157 : decode cX7_takesOff 157 = .ok (.isub, 1) := by decide +kernel
theorem dX7_takesOff_158 : decode cX7_takesOff 158 = .ok (.istore 7, 2) := by decide +kernel
theorem dX7_takesOff_160 : decode cX7_takesOff 160 = .ok (.iload 7, 2) := by decide +kernel
theorem dX7_takesOff_162 : decode cX7_takesOff 162 = .ok (.ifCond .ne 5, 3) := by decide +kernel
theorem dX7_takesOff_165 : decode cX7_takesOff 165 = .ok (.iconst 0, 1) := by decide +kernel
theorem dX7_takesOff_166 : decode cX7_takesOff 166 = .ok (.ireturn, 1) := by decide +kernel
theorem dX7_takesOff_167 : decode cX7_takesOff 167 = .ok (.iconst 0, 1) := by decide +kernel
theorem dX7_takesOff_168 : decode cX7_takesOff 168 = .ok (.istore 8, 2) := by decide +kernel
theorem dX7_takesOff_170 : decode cX7_takesOff 170 = .ok (.iload 8, 2) := by decide +kernel
theorem dX7_takesOff_172 : decode cX7_takesOff 172 = .ok (.iload_n 1, 1) := by decide +kernel
theorem dX7_takesOff_173 : decode cX7_takesOff 173 = .ok (.if_icmp .ge 32, 3) := by decide +kernel
theorem dX7_takesOff_176 : decode cX7_takesOff 176 = .ok (.aload_n 0, 1) := by decide +kernel
theorem dX7_takesOff_177 : decode cX7_takesOff 177 = .ok (.getfield 26, 3) := by decide +kernel
theorem dX7_takesOff_180 : decode cX7_takesOff 180 = .ok (.iload 8, 2) := by decide +kernel
theorem dX7_takesOff_182 : decode cX7_takesOff 182 = .ok (.dup2, 1) := by decide +kernel
theorem dX7_takesOff_183 : decode cX7_takesOff 183 = .ok (.iaload, 1) := by decide +kernel
theorem dX7_takesOff_184 : decode cX7_takesOff 184 = .ok (.iload 7, 2) := by decide +kernel
theorem dX7_takesOff_186 : decode cX7_takesOff 186 = .ok (.aload_n 0, 1) := by decide +kernel
theorem dX7_takesOff_187 : decode cX7_takesOff 187 = .ok (.iload_n 3, 1) := by decide +kernel
theorem dX7_takesOff_188 : decode cX7_takesOff 188 = .ok (.iload 8, 2) := by decide +kernel
theorem dX7_takesOff_190 : decode cX7_takesOff 190 = .ok (.iload 4, 2) := by decide +kernel
theorem dX7_takesOff_192 : decode cX7_takesOff 192 = .ok (.iadd, 1) := by decide +kernel
theorem dX7_takesOff_193 : decode cX7_takesOff 193 = .ok (.invokevirtual 80, 3) := by decide +kernel
theorem dX7_takesOff_196 : decode cX7_takesOff 196 = .ok (.imul, 1) := by decide +kernel
theorem dX7_takesOff_197 : decode cX7_takesOff 197 = .ok (.isub, 1) := by decide +kernel
theorem dX7_takesOff_198 : decode cX7_takesOff 198 = .ok (.iastore, 1) := by decide +kernel
theorem dX7_takesOff_199 : decode cX7_takesOff 199 = .ok (.iinc 8 1, 3) := by decide +kernel
theorem dX7_takesOff_202 : decode cX7_takesOff 202 = .ok (.goto (-32), 3) := by decide +kernel
theorem dX7_takesOff_205 : decode cX7_takesOff 205 = .ok (.aload_n 0, 1) := by decide +kernel
theorem dX7_takesOff_206 : decode cX7_takesOff 206 = .ok (.getfield 23, 3) := by decide +kernel
theorem dX7_takesOff_209 : decode cX7_takesOff 209 = .ok (.iconst 3, 1) := by decide +kernel
theorem dX7_takesOff_210 : decode cX7_takesOff 210 = .ok (.aload_n 0, 1) := by decide +kernel
theorem dX7_takesOff_211 : decode cX7_takesOff 211 = .ok (.getfield 121, 3) := by decide +kernel
theorem dX7_takesOff_214 : decode cX7_takesOff 214 = .ok (.imul, 1) := by decide +kernel
theorem dX7_takesOff_215 : decode cX7_takesOff 215 = .ok (.iload_n 3, 1) := by decide +kernel
theorem dX7_takesOff_216 : decode cX7_takesOff 216 = .ok (.iastore, 1) := by decide +kernel
theorem dX7_takesOff_217 : decode cX7_takesOff 217 = .ok (.aload_n 0, 1) := by decide +kernel
theorem dX7_takesOff_218 : decode cX7_takesOff 218 = .ok (.getfield 23, 3) := by decide +kernel
theorem dX7_takesOff_221 : decode cX7_takesOff 221 = .ok (.iconst 3, 1) := by decide +kernel
theorem dX7_takesOff_222 : decode cX7_takesOff 222 = .ok (.aload_n 0, 1) := by decide +kernel
theorem dX7_takesOff_223 : decode cX7_takesOff 223 = .ok (.getfield 121, 3) := by decide +kernel
theorem dX7_takesOff_226 : decode cX7_takesOff 226 = .ok (.imul, 1) := by decide +kernel
theorem dX7_takesOff_227 : decode cX7_takesOff 227 = .ok (.iconst 1, 1) := by decide +kernel
theorem dX7_takesOff_228 : decode cX7_takesOff 228 = .ok (.iadd, 1) := by decide +kernel
theorem dX7_takesOff_229 : decode cX7_takesOff 229 = .ok (.iload 4, 2) := by decide +kernel
theorem dX7_takesOff_231 : decode cX7_takesOff 231 = .ok (.iastore, 1) := by decide +kernel
theorem dX7_takesOff_232 : decode cX7_takesOff 232 = .ok (.aload_n 0, 1) := by decide +kernel
theorem dX7_takesOff_233 : decode cX7_takesOff 233 = .ok (.getfield 23, 3) := by decide +kernel
theorem dX7_takesOff_236 : decode cX7_takesOff 236 = .ok (.iconst 3, 1) := by decide +kernel
theorem dX7_takesOff_237 : decode cX7_takesOff 237 = .ok (.aload_n 0, 1) := by decide +kernel
theorem dX7_takesOff_238 : decode cX7_takesOff 238 = .ok (.getfield 121, 3) := by decide +kernel
theorem dX7_takesOff_241 : decode cX7_takesOff 241 = .ok (.imul, 1) := by decide +kernel
theorem dX7_takesOff_242 : decode cX7_takesOff 242 = .ok (.iconst 2, 1) := by decide +kernel
theorem dX7_takesOff_243 : decode cX7_takesOff 243 = .ok (.iadd, 1) := by decide +kernel
theorem dX7_takesOff_244 : decode cX7_takesOff 244 = .ok (.iload 7, 2) := by decide +kernel
theorem dX7_takesOff_246 : decode cX7_takesOff 246 = .ok (.iastore, 1) := by decide +kernel
theorem dX7_takesOff_247 : decode cX7_takesOff 247 = .ok (.iconst 1, 1) := by decide +kernel
theorem dX7_takesOff_248 : decode cX7_takesOff 248 = .ok (.ireturn, 1) := by decide +kernel
set_option maxRecDepth 20000 in
theorem ggX7_peeled_X7_in : GoodIn wsX7_peeled wsX7_in := goodIn_r _ [7] (by decide +kernel) (by decide +kernel)
set_option maxRecDepth 20000 in
theorem gX7_peeled_X7_in : GoodIn wsX7_peeled (va_wsS RX7 51 yX7_in wsX7_in) := goodIn_app (goodIn_of _ (by decide +kernel)) ggX7_peeled_X7_in
theorem dX7_peeled_0 : decode cX7_peeled 0 = .ok (.iload_n 1, 1) := by decide +kernel
theorem dX7_peeled_1 : decode cX7_peeled 1 = .ok (.iconst 0, 1) := by decide +kernel
theorem dX7_peeled_2 : decode cX7_peeled 2 = .ok (.aload_n 0, 1) := by decide +kernel
theorem dX7_peeled_3 : decode cX7_peeled 3 = .ok (.getfield 121, 3) := by decide +kernel
theorem dX7_peeled_6 : decode cX7_peeled 6 = .ok (.iconst 1, 1) := by decide +kernel
theorem dX7_peeled_7 : decode cX7_peeled 7 = .ok (.isub, 1) := by decide +kernel
theorem dX7_peeled_8 : decode cX7_peeled 8 = .ok (.invokestatic 51, 3) := by decide +kernel
theorem dX7_peeled_11 : decode cX7_peeled 11 = .ok (.ifCond .eq 25, 3) := by decide +kernel
theorem dX7_peeled_14 : decode cX7_peeled 14 = .ok (.iload_n 2, 1) := by decide +kernel
theorem dX7_peeled_15 : decode cX7_peeled 15 = .ok (.iconst 0, 1) := by decide +kernel
theorem dX7_peeled_16 : decode cX7_peeled 16 = .ok (.iconst 2, 1) := by decide +kernel
theorem dX7_peeled_17 : decode cX7_peeled 17 = .ok (.invokestatic 51, 3) := by decide +kernel
theorem dX7_peeled_20 : decode cX7_peeled 20 = .ok (.ifCond .eq 16, 3) := by decide +kernel
theorem dX7_peeled_23 : decode cX7_peeled 23 = .ok (.aload_n 0, 1) := by decide +kernel
theorem dX7_peeled_24 : decode cX7_peeled 24 = .ok (.getfield 23, 3) := by decide +kernel
theorem dX7_peeled_27 : decode cX7_peeled 27 = .ok (.iconst 3, 1) := by decide +kernel
theorem dX7_peeled_28 : decode cX7_peeled 28 = .ok (.iload_n 1, 1) := by decide +kernel
theorem dX7_peeled_29 : decode cX7_peeled 29 = .ok (.imul, 1) := by decide +kernel
theorem dX7_peeled_30 : decode cX7_peeled 30 = .ok (.iload_n 2, 1) := by decide +kernel
theorem dX7_peeled_31 : decode cX7_peeled 31 = .ok (.iadd, 1) := by decide +kernel
theorem dX7_peeled_32 : decode cX7_peeled 32 = .ok (.iaload, 1) := by decide +kernel
theorem dX7_peeled_33 : decode cX7_peeled 33 = .ok (.goto 5, 3) := by decide +kernel
theorem dX7_peeled_36 : decode cX7_peeled 36 = .ok (.ldc 130, 2) := by decide +kernel
theorem dX7_peeled_38 : decode cX7_peeled 38 = .ok (.ireturn, 1) := by decide +kernel
theorem dX7_noise_0 : decode cX7_noise 0 = .ok (.aload_n 0, 1) := by decide +kernel
theorem dX7_noise_1 : decode cX7_noise 1 = .ok (.getfield 127, 3) := by decide +kernel
theorem dX7_noise_4 : decode cX7_noise 4 = .ok (.lreturn, 1) := by decide +kernel
set_option maxRecDepth 20000 in
theorem ggX7_amount_X7_signOf : GoodIn wsX7_amount wsX7_signOf := goodIn_r _ [6, 7, 1, 18, 19, 20, 21, 22, 23, 24, 25, 26, 27, 28, 29, 30, 31, 32, 33, 34, 35, 36] (by decide +kernel) (by decide +kernel)
set_option maxRecDepth 20000 in
theorem gX7_amount_X7_signOf : GoodIn wsX7_amount (wsV RX7 80 RX7 yX7_signOf wsX7_signOf) := goodIn_app (goodIn_of _ (by decide +kernel)) ggX7_amount_X7_signOf
set_option maxRecDepth 20000 in
theorem ggX7_amount_X7_sample : GoodIn wsX7_amount wsX7_sample := goodIn_r _ [11, 12, 13, 14, 15, 16, 5, 17, 18, 19, 20, 21, 22, 23, 24, 25, 26, 27, 28, 29, 30, 31, 32, 33, 34, 35, 36] (by decide +kernel) (by decide +kernel)
set_option maxRecDepth 20000 in
theorem gX7_amount_X7_sample : GoodIn wsX7_amount (wsV RX7 94 RX7 yX7_sample wsX7_sample) := goodIn_app (goodIn_of _ (by decide +kernel)) ggX7_amount_X7_sample
theorem dX7_amount_0 : decode cX7_amount 0 = .ok (.iconst 0, 1) := by decide +kernel
theorem dX7_amount_1 : decode cX7_amount 1 = .ok (.istore 4, 2) := by decide +kernel
theorem dX7_amount_3 : decode cX7_amount 3 = .ok (.iconst 0, 1) := by decide +kernel
theorem dX7_amount_4 : decode cX7_amount 4 = .ok (.istore 5, 2) := by decide +kernel
theorem dX7_amount_6 : decode cX7_amount 6 = .ok (.iload 5, 2) := by decide +kernel
theorem dX7_amount_8 : decode cX7_amount 8 = .ok (.aload_n 0, 1) := by decide +kernel
theorem dX7_amount_9 : decode cX7_amount 9 = .ok (.getfield 7, 3) := by decide +kernel
theorem dX7_amount_12 : decode cX7_amount 12 = .ok (.iload_n 1, 1) := by decide +kernel
theorem dX7_amount_13 : decode cX7_amount 13 = .ok (.iaload, 1) := by decide +kernel
theorem dX7_amount_14 : decode cX7_amount 14 = .ok (.if_icmp .ge 33, 3) := by decide +kernel
theorem dX7_amount_17 : decode cX7_amount 17 = .ok (.iload 4, 2) := by decide +kernel
theorem dX7_amount_19 : decode cX7_amount 19 = .ok (.aload_n 0, 1) := by decide +kernel
theorem dX7_amount_20 : decode cX7_amount 20 = .ok (.iload_n 1, 1) := by decide +kernel
theorem dX7_amount_21 : decode cX7_amount 21 = .ok (.iload 5, 2) := by decide +kernel
theorem dX7_amount_23 : decode cX7_amount 23 = .ok (.iload_n 3, 1) := by decide +kernel
theorem dX7_amount_24 : decode cX7_amount 24 = .ok (.iadd, 1) := by decide +kernel
theorem dX7_amount_25 : decode cX7_amount 25 = .ok (.invokevirtual 80, 3) := by decide +kernel
theorem dX7_amount_28 : decode cX7_amount 28 = .ok (.aload_n 0, 1) := by decide +kernel
theorem dX7_amount_29 : decode cX7_amount 29 = .ok (.iconst 0, 1) := by decide +kernel
theorem dX7_amount_30 : decode cX7_amount 30 = .ok (.iload_n 2, 1) := by decide +kernel
theorem dX7_amount_31 : decode cX7_amount 31 = .ok (.iload 5, 2) := by decide +kernel
theorem dX7_amount_33 : decode cX7_amount 33 = .ok (.iadd, 1) := by decide +kernel
theorem dX7_amount_34 : decode cX7_amount 34 = .ok (.invokevirtual 94, 3) := by decide +kernel
theorem dX7_amount_37 : decode cX7_amount 37 = .ok (.imul, 1) := by decide +kernel
theorem dX7_amount_38 : decode cX7_amount 38 = .ok (.iadd, 1) := by decide +kernel
theorem dX7_amount_39 : decode cX7_amount 39 = .ok (.istore 4, 2) := by decide +kernel
theorem dX7_amount_41 : decode cX7_amount 41 = .ok (.iinc 5 1, 3) := by decide +kernel
theorem dX7_amount_44 : decode cX7_amount 44 = .ok (.goto (-38), 3) := by decide +kernel
theorem dX7_amount_47 : decode cX7_amount 47 = .ok (.iload 4, 2) := by decide +kernel
theorem dX7_amount_49 : decode cX7_amount 49 = .ok (.ifCond .ge 9, 3) := by decide +kernel
theorem dX7_amount_52 : decode cX7_amount 52 = .ok (.iload 4, 2) := by decide +kernel
theorem dX7_amount_54 : decode cX7_amount 54 = .ok (.ineg, 1) := by decide +kernel
theorem dX7_amount_55 : decode cX7_amount 55 = .ok (.goto 5, 3) := by decide +kernel
theorem dX7_amount_58 : decode cX7_amount 58 = .ok (.iload 4, 2) := by decide +kernel
theorem dX7_amount_60 : decode cX7_amount 60 = .ok (.ireturn, 1) := by decide +kernel
set_option maxRecDepth 20000 in
theorem ggX7_follow_X7_isRow : GoodIn wsX7_follow wsX7_isRow := goodIn_r _ [5, 6, 7, 4, 8] (by decide +kernel) (by decide +kernel)
set_option maxRecDepth 20000 in
theorem gX7_follow_X7_isRow : GoodIn wsX7_follow (va_wsS RX7 55 yX7_isRow wsX7_isRow) := goodIn_app (goodIn_of _ (by decide +kernel)) ggX7_follow_X7_isRow
set_option maxRecDepth 20000 in
theorem ggX7_follow_X7_in : GoodIn wsX7_follow wsX7_in := goodIn_r _ [8] (by decide +kernel) (by decide +kernel)
set_option maxRecDepth 20000 in
theorem gX7_follow_X7_in : GoodIn wsX7_follow (va_wsS RX7 51 yX7_in wsX7_in) := goodIn_app (goodIn_of _ (by decide +kernel)) ggX7_follow_X7_in
set_option maxRecDepth 20000 in
theorem ggX7_follow_X7_isShift : GoodIn wsX7_follow wsX7_isShift := goodIn_r _ [11, 6, 7, 4, 8] (by decide +kernel) (by decide +kernel)
set_option maxRecDepth 20000 in
theorem gX7_follow_X7_isShift : GoodIn wsX7_follow (va_wsS RX7 73 yX7_isShift wsX7_isShift) := goodIn_app (goodIn_of _ (by decide +kernel)) ggX7_follow_X7_isShift
set_option maxRecDepth 20000 in
theorem ggX7_follow_X7_amount : GoodIn wsX7_follow wsX7_amount := goodIn_r _ [15, 1, 16, 17, 18, 4, 19, 20, 21, 22, 23, 24, 25, 26, 27, 6, 7, 8, 28, 29, 30, 31, 32, 33, 34, 35, 36, 37, 38, 39, 40, 41, 42, 43, 44, 45, 46] (by decide +kernel) (by decide +kernel)
set_option maxRecDepth 20000 in
theorem gX7_follow_X7_amount : GoodIn wsX7_follow (wsV RX7 131 RX7 yX7_amount wsX7_amount) := goodIn_app (goodIn_of _ (by decide +kernel)) ggX7_follow_X7_amount
theorem dX7_follow_0 : decode cX7_follow 0 = .ok (.iload_n 1, 1) := by decide +kernel
theorem dX7_follow_1 : decode cX7_follow 1 = .ok (.invokestatic 55, 3) := by decide +kernel
theorem dX7_follow_4 : decode cX7_follow 4 = .ok (.ifCond .eq 32, 3) := by decide +kernel
theorem dX7_follow_7 : decode cX7_follow 7 = .ok (.iload_n 2, 1) := by decide +kernel
theorem dX7_follow_8 : decode cX7_follow 8 = .ok (.iconst 0, 1) := by decide +kernel
theorem dX7_follow_9 : decode cX7_follow 9 = .ok (.sipush 300, 3) := by decide +kernel
theorem dX7_follow_12 : decode cX7_follow 12 = .ok (.invokestatic 51, 3) := by decide +kernel
theorem dX7_follow_15 : decode cX7_follow 15 = .ok (.ifCond .eq 21, 3) := by decide +kernel
theorem dX7_follow_18 : decode cX7_follow 18 = .ok (.iload_n 3, 1) := by decide +kernel
theorem dX7_follow_19 : decode cX7_follow 19 = .ok (.invokestatic 73, 3) := by decide +kernel
theorem dX7_follow_22 : decode cX7_follow 22 = .ok (.ifCond .eq 14, 3) := by decide +kernel
theorem dX7_follow_25 : decode cX7_follow 25 = .ok (.iload 4, 2) := by decide +kernel
theorem dX7_follow_27 : decode cX7_follow 27 = .ok (.iconst 1, 1) := by decide +kernel
theorem dX7_follow_28 : decode cX7_follow 28 = .ok (.bipush 20, 2) := by decide +kernel
theorem dX7_follow_30 : decode cX7_follow 30 = .ok (.invokestatic 51, 3) := by decide +kernel
theorem dX7_follow_33 : decode cX7_follow 33 = .ok (.ifCond .ne 6, 3) := by decide +kernel
theorem dX7_follow_36 : decode cX7_follow 36 = .ok (.bipush (-2), 2) := by decide +kernel
theorem dX7_follow_38 : decode cX7_follow 38 = .ok (.ireturn, 1) := by decide +kernel
theorem dX7_follow_39 : decode cX7_follow 39 = .ok (.aload_n 0, 1) := by decide +kernel
theorem dX7_follow_40 : decode cX7_follow 40 = .ok (.getfield 7, 3) := by decide +kernel
theorem dX7_follow_43 : decode cX7_follow 43 = .ok (.iload_n 1, 1) := by decide +kernel
theorem dX7_follow_44 : decode cX7_follow 44 = .ok (.iaload, 1) := by decide +kernel
theorem dX7_follow_45 : decode cX7_follow 45 = .ok (.ifCond .ne 6, 3) := by decide +kernel
theorem dX7_follow_48 : decode cX7_follow 48 = .ok (.bipush (-3), 2) := by decide +kernel
theorem dX7_follow_50 : decode cX7_follow 50 = .ok (.ireturn, 1) := by decide +kernel
theorem dX7_follow_51 : decode cX7_follow 51 = .ok (.aload_n 0, 1) := by decide +kernel
theorem dX7_follow_52 : decode cX7_follow 52 = .ok (.getfield 7, 3) := by decide +kernel
theorem dX7_follow_55 : decode cX7_follow 55 = .ok (.iload_n 1, 1) := by decide +kernel
theorem dX7_follow_56 : decode cX7_follow 56 = .ok (.iaload, 1) := by decide +kernel
theorem dX7_follow_57 : decode cX7_follow 57 = .ok (.istore 5, 2) := by decide +kernel
theorem dX7_follow_59 : decode cX7_follow 59 = .ok (.iload_n 3, 1) := by decide +kernel
theorem dX7_follow_60 : decode cX7_follow 60 = .ok (.iload 5, 2) := by decide +kernel
theorem dX7_follow_62 : decode cX7_follow 62 = .ok (.irem, 1) := by decide +kernel
theorem dX7_follow_63 : decode cX7_follow 63 = .ok (.istore 6, 2) := by decide +kernel
theorem dX7_follow_65 : decode cX7_follow 65 = .ok (.iconst 0, 1) := by decide +kernel
theorem dX7_follow_66 : decode cX7_follow 66 = .ok (.istore 7, 2) := by decide +kernel
theorem dX7_follow_68 : decode cX7_follow 68 = .ok (.iload 7, 2) := by decide +kernel
theorem dX7_follow_70 : decode cX7_follow 70 = .ok (.iload 4, 2) := by decide +kernel
theorem dX7_follow_72 : decode cX7_follow 72 = .ok (.if_icmp .ge 107, 3) := by decide +kernel
theorem dX7_follow_75 : decode cX7_follow 75 = .ok (.iload_n 2, 1) := by decide +kernel
theorem dX7_follow_76 : decode cX7_follow 76 = .ok (.iload 7, 2) := by decide +kernel
theorem dX7_follow_78 : decode cX7_follow 78 = .ok (.iload 5, 2) := by decide +kernel
theorem dX7_follow_80 : decode cX7_follow 80 = .ok (.imul, 1) := by decide +kernel
theorem dX7_follow_81 : decode cX7_follow 81 = .ok (.iadd, 1) := by decide +kernel
theorem dX7_follow_82 : decode cX7_follow 82 = .ok (.istore 8, 2) := by decide +kernel
theorem dX7_follow_84 : decode cX7_follow 84 = .ok (.iload 6, 2) := by decide +kernel
theorem dX7_follow_86 : decode cX7_follow 86 = .ok (.iload 5, 2) := by decide +kernel
theorem dX7_follow_88 : decode cX7_follow 88 = .ok (.iadd, 1) := by decide +kernel
theorem dX7_follow_89 : decode cX7_follow 89 = .ok (.iconst 1, 1) := by decide +kernel
theorem dX7_follow_90 : decode cX7_follow 90 = .ok (.isub, 1) := by decide +kernel
theorem dX7_follow_91 : decode cX7_follow 91 = .ok (.iload 5, 2) := by decide +kernel
theorem dX7_follow_93 : decode cX7_follow 93 = .ok (.irem, 1) := by decide +kernel
theorem dX7_follow_94 : decode cX7_follow 94 = .ok (.istore 9, 2) := by decide +kernel
theorem dX7_follow_96 : decode cX7_follow 96 = .ok (.iload 6, 2) := by decide +kernel
theorem dX7_follow_98 : decode cX7_follow 98 = .ok (.iconst 1, 1) := by decide +kernel
theorem dX7_follow_99 : decode cX7_follow 99 = .ok (.iadd, 1) := by decide +kernel
theorem dX7_follow_100 : decode cX7_follow 100 = .ok (.iload 5, 2) := by decide +kernel
theorem dX7_follow_102 : decode cX7_follow 102 = .ok (.irem, 1) := by decide +kernel
theorem dX7_follow_103 : decode cX7_follow 103 = .ok (.istore 10, 2) := by decide +kernel
theorem dX7_follow_105 : decode cX7_follow 105 = .ok (.iload 6, 2) := by decide +kernel
theorem dX7_follow_107 : decode cX7_follow 107 = .ok (.istore 11, 2) := by decide +kernel
theorem dX7_follow_109 : decode cX7_follow 109 = .ok (.aload_n 0, 1) := by decide +kernel
theorem dX7_follow_110 : decode cX7_follow 110 = .ok (.iload_n 1, 1) := by decide +kernel
theorem dX7_follow_111 : decode cX7_follow 111 = .ok (.iload 8, 2) := by decide +kernel
theorem dX7_follow_113 : decode cX7_follow 113 = .ok (.iload 9, 2) := by decide +kernel
theorem dX7_follow_115 : decode cX7_follow 115 = .ok (.invokevirtual 131, 3) := by decide +kernel
theorem dX7_follow_118 : decode cX7_follow 118 = .ok (.aload_n 0, 1) := by decide +kernel
theorem dX7_follow_119 : decode cX7_follow 119 = .ok (.iload_n 1, 1) := by decide +kernel
theorem dX7_follow_120 : decode cX7_follow 120 = .ok (.iload 8, 2) := by decide +kernel
theorem dX7_follow_122 : decode cX7_follow 122 = .ok (.iload 11, 2) := by decide +kernel
theorem dX7_follow_124 : decode cX7_follow 124 = .ok (.invokevirtual 131, 3) := by decide +kernel
theorem dX7_follow_127 : decode cX7_follow 127 = .ok (.if_icmp .le 8, 3) := by decide +kernel
theorem dX7_follow_130 : decode cX7_follow 130 = .ok (.iload 9, 2) := by decide +kernel
theorem dX7_follow_132 : decode cX7_follow 132 = .ok (.goto 5, 3) := by decide +kernel
theorem dX7_follow_135 : decode cX7_follow 135 = .ok (.iload 11, 2) := by decide +kernel
theorem dX7_follow_137 : decode cX7_follow 137 = .ok (.istore 11, 2) := by decide +kernel
theorem dX7_follow_139 : decode cX7_follow 139 = .ok (.aload_n 0, 1) := by decide +kernel
theorem dX7_follow_140 : decode cX7_follow 140 = .ok (.iload_n 1, 1) := by decide +kernel
theorem dX7_follow_141 : decode cX7_follow 141 = .ok (.iload 8, 2) := by decide +kernel
theorem dX7_follow_143 : decode cX7_follow 143 = .ok (.iload 10, 2) := by decide +kernel
theorem dX7_follow_145 : decode cX7_follow 145 = .ok (.invokevirtual 131, 3) := by decide +kernel
theorem dX7_follow_148 : decode cX7_follow 148 = .ok (.aload_n 0, 1) := by decide +kernel
theorem dX7_follow_149 : decode cX7_follow 149 = .ok (.iload_n 1, 1) := by decide +kernel
theorem dX7_follow_150 : decode cX7_follow 150 = .ok (.iload 8, 2) := by decide +kernel
theorem dX7_follow_152 : decode cX7_follow 152 = .ok (.iload 11, 2) := by decide +kernel
theorem dX7_follow_154 : decode cX7_follow 154 = .ok (.invokevirtual 131, 3) := by decide +kernel
theorem dX7_follow_157 : decode cX7_follow 157 = .ok (.if_icmp .le 8, 3) := by decide +kernel
theorem dX7_follow_160 : decode cX7_follow 160 = .ok (.iload 10, 2) := by decide +kernel
theorem dX7_follow_162 : decode cX7_follow 162 = .ok (.goto 5, 3) := by decide +kernel
theorem dX7_follow_165 : decode cX7_follow 165 = .ok (.iload 11, 2) := by decide +kernel
theorem dX7_follow_167 : decode cX7_follow 167 = .ok (.istore 11, 2) := by decide +kernel
theorem dX7_follow_169 : decode cX7_follow 169 = .ok (.iload 11, 2) := by decide +kernel
theorem dX7_follow_171 : decode cX7_follow 171 = .ok (.istore 6, 2) := by decide +kernel
theorem dX7_follow_173 : decode cX7_follow 173 = .ok (.iinc 7 1, 3) := by decide +kernel
theorem dX7_follow_176 : decode cX7_follow 176 = .ok (.goto (-108), 3) := by decide +kernel
theorem dX7_follow_179 : decode cX7_follow 179 = .ok (.iload 6, 2) := by decide +kernel
theorem dX7_follow_181 : decode cX7_follow 181 = .ok (.ireturn, 1) := by decide +kernel
theorem dX7_divisor_0 : decode cX7_divisor 0 = .ok (.iload_n 0, 1) := by decide +kernel
theorem dX7_divisor_1 : decode cX7_divisor 1 = .ok (.istore_n 2, 1) := by decide +kernel
theorem dX7_divisor_2 : decode cX7_divisor 2 = .ok (.iload_n 1, 1) := by decide +kernel
theorem dX7_divisor_3 : decode cX7_divisor 3 = .ok (.istore_n 3, 1) := by decide +kernel
theorem dX7_divisor_4 : decode cX7_divisor 4 = .ok (.iload_n 3, 1) := by decide +kernel
theorem dX7_divisor_5 : decode cX7_divisor 5 = .ok (.ifCond .le 16, 3) := by decide +kernel
theorem dX7_divisor_8 : decode cX7_divisor 8 = .ok (.iload_n 2, 1) := by decide +kernel
theorem dX7_divisor_9 : decode cX7_divisor 9 = .ok (.iload_n 3, 1) := by decide +kernel
theorem dX7_divisor_10 : decode cX7_divisor 10 = .ok (.irem, 1) := by decide +kernel
theorem dX7_divisor_11 : decode cX7_divisor 11 = .ok (.istore 4, 2) := by decide +kernel
theorem dX7_divisor_13 : decode cX7_divisor 13 = .ok (.iload_n 3, 1) := by decide +kernel
theorem dX7_divisor_14 : decode cX7_divisor 14 = .ok (.istore_n 2, 1) := by decide +kernel
theorem dX7_divisor_15 : decode cX7_divisor 15 = .ok (.iload 4, 2) := by decide +kernel
theorem dX7_divisor_17 : decode cX7_divisor 17 = .ok (.istore_n 3, 1) := by decide +kernel
theorem dX7_divisor_18 : decode cX7_divisor 18 = .ok (.goto (-14), 3) := by decide +kernel
theorem dX7_divisor_21 : decode cX7_divisor 21 = .ok (.iload_n 2, 1) := by decide +kernel
theorem dX7_divisor_22 : decode cX7_divisor 22 = .ok (.ireturn, 1) := by decide +kernel
set_option maxRecDepth 20000 in
theorem ggX7_length_X7_in : GoodIn wsX7_length wsX7_in := goodIn_r _ [7] (by decide +kernel) (by decide +kernel)
set_option maxRecDepth 20000 in
theorem gX7_length_X7_in : GoodIn wsX7_length (va_wsS RX7 51 yX7_in wsX7_in) := goodIn_app (goodIn_of _ (by decide +kernel)) ggX7_length_X7_in
set_option maxRecDepth 20000 in
theorem ggX7_length_X7_divisor : GoodIn wsX7_length wsX7_divisor := goodIn_r _ [10] (by decide +kernel) (by decide +kernel)
set_option maxRecDepth 20000 in
theorem gX7_length_X7_divisor : GoodIn wsX7_length (va_wsS RX7 137 yX7_divisor wsX7_divisor) := goodIn_app (goodIn_of _ (by decide +kernel)) ggX7_length_X7_divisor
theorem dX7_length_0 : decode cX7_length 0 = .ok (.iload_n 1, 1) := by decide +kernel
theorem dX7_length_1 : decode cX7_length 1 = .ok (.iconst 2, 1) := by decide +kernel
theorem dX7_length_2 : decode cX7_length 2 = .ok (.bipush 127, 2) := by decide +kernel
theorem dX7_length_4 : decode cX7_length 4 = .ok (.invokestatic 51, 3) := by decide +kernel
theorem dX7_length_7 : decode cX7_length 7 = .ok (.ifCond .eq 14, 3) := by decide +kernel
theorem dX7_length_10 : decode cX7_length 10 = .ok (.iload_n 2, 1) := by decide +kernel
theorem dX7_length_11 : decode cX7_length 11 = .ok (.iconst 0, 1) := by decide +kernel
theorem dX7_length_12 : decode cX7_length 12 = .ok (.iload_n 1, 1) := by decide +kernel
theorem dX7_length_13 : decode cX7_length 13 = .ok (.iconst 1, 1) := by decide +kernel
theorem dX7_length_14 : decode cX7_length 14 = .ok (.isub, 1) := by decide +kernel
theorem dX7_length_15 : decode cX7_length 15 = .ok (.invokestatic 51, 3) := by decide +kernel
theorem dX7_length_18 : decode cX7_length 18 = .ok (.ifCond .ne 6, 3) := by decide +kernel
theorem dX7_length_21 : decode cX7_length 21 = .ok (.bipush (-2), 2) := by decide +kernel
theorem dX7_length_23 : decode cX7_length 23 = .ok (.ireturn, 1) := by decide +kernel
theorem dX7_length_24 : decode cX7_length 24 = .ok (.iconst 0, 1) := by decide +kernel
theorem dX7_length_25 : decode cX7_length 25 = .ok (.istore_n 3, 1) := by decide +kernel
theorem dX7_length_26 : decode cX7_length 26 = .ok (.iload_n 3, 1) := by decide +kernel
theorem dX7_length_27 : decode cX7_length 27 = .ok (.aload_n 0, 1) := by decide +kernel
theorem dX7_length_28 : decode cX7_length 28 = .ok (.getfield 134, 3) := by decide +kernel
theorem dX7_length_31 : decode cX7_length 31 = .ok (.if_icmp .ge 26, 3) := by decide +kernel
theorem dX7_length_34 : decode cX7_length 34 = .ok (.iload_n 1, 1) := by decide +kernel
theorem dX7_length_35 : decode cX7_length 35 = .ok (.aload_n 0, 1) := by decide +kernel
theorem dX7_length_36 : decode cX7_length 36 = .ok (.getfield 29, 3) := by decide +kernel
theorem dX7_length_39 : decode cX7_length 39 = .ok (.iload_n 3, 1) := by decide +kernel
theorem dX7_length_40 : decode cX7_length 40 = .ok (.iaload, 1) := by decide +kernel
theorem dX7_length_41 : decode cX7_length 41 = .ok (.invokestatic 137, 3) := by decide +kernel
theorem dX7_length_44 : decode cX7_length 44 = .ok (.iconst 1, 1) := by decide +kernel
theorem dX7_length_45 : decode cX7_length 45 = .ok (.if_icmp .le 6, 3) := by decide +kernel
theorem dX7_length_48 : decode cX7_length 48 = .ok (.bipush (-2), 2) := by decide +kernel
theorem dX7_length_50 : decode cX7_length 50 = .ok (.ireturn, 1) := by decide +kernel
theorem dX7_length_51 : decode cX7_length 51 = .ok (.iinc 3 1, 3) := by decide +kernel
theorem dX7_length_54 : decode cX7_length 54 = .ok (.goto (-28), 3) := by decide +kernel
theorem dX7_length_57 : decode cX7_length 57 = .ok (.aload_n 0, 1) := by decide +kernel
theorem dX7_length_58 : decode cX7_length 58 = .ok (.getfield 134, 3) := by decide +kernel
theorem dX7_length_61 : decode cX7_length 61 = .ok (.iconst 5, 1) := by decide +kernel
theorem dX7_length_62 : decode cX7_length 62 = .ok (.if_icmp .ne 6, 3) := by decide +kernel
theorem dX7_length_65 : decode cX7_length 65 = .ok (.bipush (-4), 2) := by decide +kernel
theorem dX7_length_67 : decode cX7_length 67 = .ok (.ireturn, 1) := by decide +kernel
theorem dX7_length_68 : decode cX7_length 68 = .ok (.aload_n 0, 1) := by decide +kernel
theorem dX7_length_69 : decode cX7_length 69 = .ok (.getfield 29, 3) := by decide +kernel
theorem dX7_length_72 : decode cX7_length 72 = .ok (.aload_n 0, 1) := by decide +kernel
theorem dX7_length_73 : decode cX7_length 73 = .ok (.getfield 134, 3) := by decide +kernel
theorem dX7_length_76 : decode cX7_length 76 = .ok (.iload_n 1, 1) := by decide +kernel
theorem dX7_length_77 : decode cX7_length 77 = .ok (.iastore, 1) := by decide +kernel
theorem dX7_length_78 : decode cX7_length 78 = .ok (.aload_n 0, 1) := by decide +kernel
theorem dX7_length_79 : decode cX7_length 79 = .ok (.getfield 32, 3) := by decide +kernel
theorem dX7_length_82 : decode cX7_length 82 = .ok (.aload_n 0, 1) := by decide +kernel
theorem dX7_length_83 : decode cX7_length 83 = .ok (.getfield 134, 3) := by decide +kernel
theorem dX7_length_86 : decode cX7_length 86 = .ok (.iload_n 2, 1) := by decide +kernel
theorem dX7_length_87 : decode cX7_length 87 = .ok (.iastore, 1) := by decide +kernel
theorem dX7_length_88 : decode cX7_length 88 = .ok (.aload_n 0, 1) := by decide +kernel
theorem dX7_length_89 : decode cX7_length 89 = .ok (.dup, 1) := by decide +kernel
theorem dX7_length_90 : decode cX7_length 90 = .ok (.getfield 134, 3) := by decide +kernel
theorem dX7_length_93 : decode cX7_length 93 = .ok (.iconst 1, 1) := by decide +kernel
theorem dX7_length_94 : decode cX7_length 94 = .ok (.iadd, 1) := by decide +kernel
theorem dX7_length_95 : decode cX7_length 95 = .ok (.putfield 134, 3) := by decide +kernel
theorem dX7_length_98 : decode cX7_length 98 = .ok (.aload_n 0, 1) := by decide +kernel
theorem dX7_length_99 : decode cX7_length 99 = .ok (.getfield 134, 3) := by decide +kernel
theorem dX7_length_102 : decode cX7_length 102 = .ok (.ireturn, 1) := by decide +kernel
theorem dX7_reset_0 : decode cX7_reset 0 = .ok (.aload_n 0, 1) := by decide +kernel
theorem dX7_reset_1 : decode cX7_reset 1 = .ok (.getfield 134, 3) := by decide +kernel
theorem dX7_reset_4 : decode cX7_reset 4 = .ok (.istore_n 1, 1) := by decide +kernel
theorem dX7_reset_5 : decode cX7_reset 5 = .ok (.aload_n 0, 1) := by decide +kernel
theorem dX7_reset_6 : decode cX7_reset 6 = .ok (.iconst 0, 1) := by decide +kernel
theorem dX7_reset_7 : decode cX7_reset 7 = .ok (.putfield 134, 3) := by decide +kernel
theorem dX7_reset_10 : decode cX7_reset 10 = .ok (.iload_n 1, 1) := by decide +kernel
theorem dX7_reset_11 : decode cX7_reset 11 = .ok (.ireturn, 1) := by decide +kernel
theorem dX7_range_0 : decode cX7_range 0 = .ok (.lconst 0, 1) := by decide +kernel
theorem dX7_range_1 : decode cX7_range 1 = .ok (.lstore_n 1, 1) := by decide +kernel
theorem dX7_range_2 : decode cX7_range 2 = .ok (.lconst 1, 1) := by decide +kernel
theorem dX7_range_3 : decode cX7_range 3 = .ok (.lstore_n 3, 1) := by decide +kernel
theorem dX7_range_4 : decode cX7_range 4 = .ok (.iconst 0, 1) := by decide +kernel
theorem dX7_range_5 : decode cX7_range 5 = .ok (.istore 5, 2) := by decide +kernel
theorem dX7_range_7 : decode cX7_range 7 = .ok (.iload 5, 2) := by decide +kernel
theorem dX7_range_9 : decode cX7_range 9 = .ok (.aload_n 0, 1) := by decide +kernel
theorem dX7_range_10 : decode cX7_range 10 = .ok (.getfield 134, 3) := by decide +kernel
theorem dX7_range_13 : decode cX7_range 13 = .ok (.if_icmp .ge 49, 3) := by decide +kernel
theorem dX7_range_16 : decode cX7_range 16 = .ok (.lload_n 1, 1) := by decide +kernel
theorem dX7_range_17 : decode cX7_range 17 = .ok (.aload_n 0, 1) := by decide +kernel
theorem dX7_range_18 : decode cX7_range 18 = .ok (.getfield 29, 3) := by decide +kernel
theorem dX7_range_21 : decode cX7_range 21 = .ok (.iload 5, 2) := by decide +kernel
theorem dX7_range_23 : decode cX7_range 23 = .ok (.iaload, 1) := by decide +kernel
theorem dX7_range_24 : decode cX7_range 24 = .ok (.i2l, 1) := by decide +kernel
theorem dX7_range_25 : decode cX7_range 25 = .ok (.lrem, 1) := by decide +kernel
theorem dX7_range_26 : decode cX7_range 26 = .ok (.aload_n 0, 1) := by decide +kernel
theorem dX7_range_27 : decode cX7_range 27 = .ok (.getfield 32, 3) := by decide +kernel
theorem dX7_range_30 : decode cX7_range 30 = .ok (.iload 5, 2) := by decide +kernel
theorem dX7_range_32 : decode cX7_range 32 = .ok (.iaload, 1) := by decide +kernel
theorem dX7_range_33 : decode cX7_range 33 = .ok (.i2l, 1) := by decide +kernel
theorem dX7_range_34 : decode cX7_range 34 = .ok (.lcmp, 1) := by decide +kernel
theorem dX7_range_35 : decode cX7_range 35 = .ok (.ifCond .eq 10, 3) := by decide +kernel
theorem dX7_range_38 : decode cX7_range 38 = .ok (.lload_n 1, 1) := by decide +kernel
theorem dX7_range_39 : decode cX7_range 39 = .ok (.lload_n 3, 1) := by decide +kernel
theorem dX7_range_40 : decode cX7_range 40 = .ok (.ladd, 1) := by decide +kernel
theorem dX7_range_41 : decode cX7_range 41 = .ok (.lstore_n 1, 1) := by decide +kernel
theorem dX7_range_42 : decode cX7_range 42 = .ok (.goto (-26), 3) := by decide +kernel
theorem dX7_range_45 : decode cX7_range 45 = .ok (.lload_n 3, 1) := by decide +kernel
theorem dX7_range_46 : decode cX7_range 46 = .ok (.aload_n 0, 1) := by decide +kernel
theorem dX7_range_47 : decode cX7_range 47 = .ok (.getfield 29, 3) := by decide +kernel
theorem dX7_range_50 : decode cX7_range 50 = .ok (.iload 5, 2) := by decide +kernel
theorem dX7_range_52 : decode cX7_range 52 = .ok (.iaload, 1) := by decide +kernel
theorem dX7_range_53 : decode cX7_range 53 = .ok (.i2l, 1) := by decide +kernel
theorem dX7_range_54 : decode cX7_range 54 = .ok (.lmul, 1) := by decide +kernel
theorem dX7_range_55 : decode cX7_range 55 = .ok (.lstore_n 3, 1) := by decide +kernel
theorem dX7_range_56 : decode cX7_range 56 = .ok (.iinc 5 1, 3) := by decide +kernel
theorem dX7_range_59 : decode cX7_range 59 = .ok (.goto (-52), 3) := by decide +kernel
theorem dX7_range_62 : decode cX7_range 62 = .ok (.lload_n 1, 1) := by decide +kernel
theorem dX7_range_63 : decode cX7_range 63 = .ok (.lreturn, 1) := by decide +kernel
set_option maxRecDepth 20000 in
theorem ggX7_mend_X7_in : GoodIn wsX7_mend wsX7_in := goodIn_r _ [7] (by decide +kernel) (by decide +kernel)
set_option maxRecDepth 20000 in
theorem gX7_mend_X7_in : GoodIn wsX7_mend (va_wsS RX7 51 yX7_in wsX7_in) := goodIn_app (goodIn_of _ (by decide +kernel)) ggX7_mend_X7_in
theorem dX7_mend_0 : decode cX7_mend 0 = .ok (.iload_n 1, 1) := by decide +kernel
theorem dX7_mend_1 : decode cX7_mend 1 = .ok (.iconst 1, 1) := by decide +kernel
theorem dX7_mend_2 : decode cX7_mend 2 = .ok (.sipush 20000, 3) := by decide +kernel
theorem dX7_mend_5 : decode cX7_mend 5 = .ok (.invokestatic 51, 3) := by decide +kernel
theorem dX7_mend_8 : decode cX7_mend 8 = .ok (.ifCond .ne 6, 3) := by decide +kernel
theorem dX7_mend_11 : decode cX7_mend 11 = .ok (.bipush (-2), 2) := by decide +kernel
theorem dX7_mend_13 : decode cX7_mend 13 = .ok (.ireturn, 1) := by decide +kernel
theorem dX7_mend_14 : decode cX7_mend 14 = .ok (.iconst 0, 1) := by decide +kernel
theorem dX7_mend_15 : decode cX7_mend 15 = .ok (.istore_n 2, 1) := by decide +kernel
theorem dX7_mend_16 : decode cX7_mend 16 = .ok (.iconst (-1), 1) := by decide +kernel
theorem dX7_mend_17 : decode cX7_mend 17 = .ok (.istore_n 3, 1) := by decide +kernel
theorem dX7_mend_18 : decode cX7_mend 18 = .ok (.iconst 0, 1) := by decide +kernel
theorem dX7_mend_19 : decode cX7_mend 19 = .ok (.istore 4, 2) := by decide +kernel
theorem dX7_mend_21 : decode cX7_mend 21 = .ok (.iload 4, 2) := by decide +kernel
theorem dX7_mend_23 : decode cX7_mend 23 = .ok (.iload_n 1, 1) := by decide +kernel
theorem dX7_mend_24 : decode cX7_mend 24 = .ok (.if_icmp .ge 72, 3) := by decide +kernel
theorem dX7_mend_27 : decode cX7_mend 27 = .ok (.iconst 0, 1) := by decide +kernel
theorem dX7_mend_28 : decode cX7_mend 28 = .ok (.istore 5, 2) := by decide +kernel
theorem dX7_mend_30 : decode cX7_mend 30 = .ok (.iconst 0, 1) := by decide +kernel
theorem dX7_mend_31 : decode cX7_mend 31 = .ok (.istore 6, 2) := by decide +kernel
theorem dX7_mend_33 : decode cX7_mend 33 = .ok (.iload 6, 2) := by decide +kernel
theorem dX7_mend_35 : decode cX7_mend 35 = .ok (.aload_n 0, 1) := by decide +kernel
theorem dX7_mend_36 : decode cX7_mend 36 = .ok (.getfield 134, 3) := by decide +kernel
theorem dX7_mend_39 : decode cX7_mend 39 = .ok (.if_icmp .ge 39, 3) := by decide +kernel
theorem dX7_mend_42 : decode cX7_mend 42 = .ok (.iload 5, 2) := by decide +kernel
theorem dX7_mend_44 : decode cX7_mend 44 = .ok (.iload 4, 2) := by decide +kernel
theorem dX7_mend_46 : decode cX7_mend 46 = .ok (.aload_n 0, 1) := by decide +kernel
theorem dX7_mend_47 : decode cX7_mend 47 = .ok (.getfield 29, 3) := by decide +kernel
theorem dX7_mend_50 : decode cX7_mend 50 = .ok (.iload 6, 2) := by decide +kernel
theorem dX7_mend_52 : decode cX7_mend 52 = .ok (.iaload, 1) := by decide +kernel
theorem dX7_mend_53 : decode cX7_mend 53 = .ok (.irem, 1) := by decide +kernel
theorem dX7_mend_54 : decode cX7_mend 54 = .ok (.aload_n 0, 1) := by decide +kernel
theorem dX7_mend_55 : decode cX7_mend 55 = .ok (.getfield 32, 3) := by decide +kernel
theorem dX7_mend_58 : decode cX7_mend 58 = .ok (.iload 6, 2) := by decide +kernel
theorem dX7_mend_60 : decode cX7_mend 60 = .ok (.iaload, 1) := by decide +kernel
theorem dX7_mend_61 : decode cX7_mend 61 = .ok (.if_icmp .ne 7, 3) := by decide +kernel
theorem dX7_mend_64 : decode cX7_mend 64 = .ok (.iconst 1, 1) := by decide +kernel
theorem dX7_mend_65 : decode cX7_mend 65 = .ok (.goto 4, 3) := by decide +kernel
theorem dX7_mend_68 : decode cX7_mend 68 = .ok (.iconst 0, 1) := by decide +kernel
theorem dX7_mend_69 : decode cX7_mend 69 = .ok (.iadd, 1) := by decide +kernel
theorem dX7_mend_70 : decode cX7_mend 70 = .ok (.istore 5, 2) := by decide +kernel
theorem dX7_mend_72 : decode cX7_mend 72 = .ok (.iinc 6 1, 3) := by decide +kernel
theorem dX7_mend_75 : decode cX7_mend 75 = .ok (.goto (-42), 3) := by decide +kernel
theorem dX7_mend_78 : decode cX7_mend 78 = .ok (.iload 5, 2) := by decide +kernel
theorem dX7_mend_80 : decode cX7_mend 80 = .ok (.iload_n 3, 1) := by decide +kernel
theorem dX7_mend_81 : decode cX7_mend 81 = .ok (.if_icmp .le 9, 3) := by decide +kernel
theorem dX7_mend_84 : decode cX7_mend 84 = .ok (.iload 5, 2) := by decide +kernel
theorem dX7_mend_86 : decode cX7_mend 86 = .ok (.istore_n 3, 1) := by decide +kernel
theorem dX7_mend_87 : decode cX7_mend 87 = .ok (.iload 4, 2) := by decide +kernel
theorem dX7_mend_89 : decode cX7_mend 89 = .ok (.istore_n 2, 1) := by decide +kernel
theorem dX7_mend_90 : decode cX7_mend 90 = .ok (.iinc 4 1, 3) := by decide +kernel
theorem dX7_mend_93 : decode cX7_mend 93 = .ok (.goto (-72), 3) := by decide +kernel
theorem dX7_mend_96 : decode cX7_mend 96 = .ok (.bipush 10, 2) := by decide +kernel
theorem dX7_mend_98 : decode cX7_mend 98 = .ok (.iload_n 2, 1) := by decide +kernel
theorem dX7_mend_99 : decode cX7_mend 99 = .ok (.imul, 1) := by decide +kernel
theorem dX7_mend_100 : decode cX7_mend 100 = .ok (.iload_n 3, 1) := by decide +kernel
theorem dX7_mend_101 : decode cX7_mend 101 = .ok (.iadd, 1) := by decide +kernel
theorem dX7_mend_102 : decode cX7_mend 102 = .ok (.ireturn, 1) := by decide +kernel
set_option maxRecDepth 20000 in
theorem ggX7_isPrime_X7_in : GoodIn wsX7_isPrime wsX7_in := goodIn_r _ [4] (by decide +kernel) (by decide +kernel)
set_option maxRecDepth 20000 in
theorem gX7_isPrime_X7_in : GoodIn wsX7_isPrime (va_wsS RX7 51 yX7_in wsX7_in) := goodIn_app (goodIn_of _ (by decide +kernel)) ggX7_isPrime_X7_in
theorem dX7_isPrime_0 : decode cX7_isPrime 0 = .ok (.iload_n 0, 1) := by decide +kernel
theorem dX7_isPrime_1 : decode cX7_isPrime 1 = .ok (.iconst 2, 1) := by decide +kernel
theorem dX7_isPrime_2 : decode cX7_isPrime 2 = .ok (.bipush 31, 2) := by decide +kernel
theorem dX7_isPrime_4 : decode cX7_isPrime 4 = .ok (.invokestatic 51, 3) := by decide +kernel
theorem dX7_isPrime_7 : decode cX7_isPrime 7 = .ok (.ifCond .ne 5, 3) := by decide +kernel
theorem dX7_isPrime_10 : decode cX7_isPrime 10 = .ok (.iconst 0, 1) := by decide +kernel
theorem dX7_isPrime_11 : decode cX7_isPrime 11 = .ok (.ireturn, 1) := by decide +kernel
theorem dX7_isPrime_12 : decode cX7_isPrime 12 = .ok (.iconst 2, 1) := by decide +kernel
theorem dX7_isPrime_13 : decode cX7_isPrime 13 = .ok (.istore_n 1, 1) := by decide +kernel
theorem dX7_isPrime_14 : decode cX7_isPrime 14 = .ok (.iload_n 1, 1) := by decide +kernel
theorem dX7_isPrime_15 : decode cX7_isPrime 15 = .ok (.iload_n 0, 1) := by decide +kernel
theorem dX7_isPrime_16 : decode cX7_isPrime 16 = .ok (.if_icmp .ge 17, 3) := by decide +kernel
theorem dX7_isPrime_19 : decode cX7_isPrime 19 = .ok (.iload_n 0, 1) := by decide +kernel
theorem dX7_isPrime_20 : decode cX7_isPrime 20 = .ok (.iload_n 1, 1) := by decide +kernel
theorem dX7_isPrime_21 : decode cX7_isPrime 21 = .ok (.irem, 1) := by decide +kernel
theorem dX7_isPrime_22 : decode cX7_isPrime 22 = .ok (.ifCond .ne 5, 3) := by decide +kernel
theorem dX7_isPrime_25 : decode cX7_isPrime 25 = .ok (.iconst 0, 1) := by decide +kernel
theorem dX7_isPrime_26 : decode cX7_isPrime 26 = .ok (.ireturn, 1) := by decide +kernel
theorem dX7_isPrime_27 : decode cX7_isPrime 27 = .ok (.iinc 1 1, 3) := by decide +kernel
theorem dX7_isPrime_30 : decode cX7_isPrime 30 = .ok (.goto (-16), 3) := by decide +kernel
theorem dX7_isPrime_33 : decode cX7_isPrime 33 = .ok (.iconst 1, 1) := by decide +kernel
theorem dX7_isPrime_34 : decode cX7_isPrime 34 = .ok (.ireturn, 1) := by decide +kernel
theorem dX7_hitsOf_0 : decode cX7_hitsOf 0 = .ok (.iconst 0, 1) := by decide +kernel
theorem dX7_hitsOf_1 : decode cX7_hitsOf 1 = .ok (.istore 5, 2) := by decide +kernel
theorem dX7_hitsOf_3 : decode cX7_hitsOf 3 = .ok (.iconst 0, 1) := by decide +kernel
theorem dX7_hitsOf_4 : decode cX7_hitsOf 4 = .ok (.istore 6, 2) := by decide +kernel
theorem dX7_hitsOf_6 : decode cX7_hitsOf 6 = .ok (.iload 6, 2) := by decide +kernel
theorem dX7_hitsOf_8 : decode cX7_hitsOf 8 = .ok (.iload_n 0, 1) := by decide +kernel
theorem dX7_hitsOf_9 : decode cX7_hitsOf 9 = .ok (.if_icmp .ge 39, 3) := by decide +kernel
theorem dX7_hitsOf_12 : decode cX7_hitsOf 12 = .ok (.iload 5, 2) := by decide +kernel
theorem dX7_hitsOf_14 : decode cX7_hitsOf 14 = .ok (.iload_n 1, 1) := by decide +kernel
theorem dX7_hitsOf_15 : decode cX7_hitsOf 15 = .ok (.iload 6, 2) := by decide +kernel
theorem dX7_hitsOf_17 : decode cX7_hitsOf 17 = .ok (.imul, 1) := by decide +kernel
theorem dX7_hitsOf_18 : decode cX7_hitsOf 18 = .ok (.iload_n 0, 1) := by decide +kernel
theorem dX7_hitsOf_19 : decode cX7_hitsOf 19 = .ok (.irem, 1) := by decide +kernel
theorem dX7_hitsOf_20 : decode cX7_hitsOf 20 = .ok (.iload_n 2, 1) := by decide +kernel
theorem dX7_hitsOf_21 : decode cX7_hitsOf 21 = .ok (.iload 6, 2) := by decide +kernel
theorem dX7_hitsOf_23 : decode cX7_hitsOf 23 = .ok (.iload_n 3, 1) := by decide +kernel
theorem dX7_hitsOf_24 : decode cX7_hitsOf 24 = .ok (.iadd, 1) := by decide +kernel
theorem dX7_hitsOf_25 : decode cX7_hitsOf 25 = .ok (.imul, 1) := by decide +kernel
theorem dX7_hitsOf_26 : decode cX7_hitsOf 26 = .ok (.iload 4, 2) := by decide +kernel
theorem dX7_hitsOf_28 : decode cX7_hitsOf 28 = .ok (.iadd, 1) := by decide +kernel
theorem dX7_hitsOf_29 : decode cX7_hitsOf 29 = .ok (.iload_n 0, 1) := by decide +kernel
theorem dX7_hitsOf_30 : decode cX7_hitsOf 30 = .ok (.irem, 1) := by decide +kernel
theorem dX7_hitsOf_31 : decode cX7_hitsOf 31 = .ok (.if_icmp .ne 7, 3) := by decide +kernel
theorem dX7_hitsOf_34 : decode cX7_hitsOf 34 = .ok (.iconst 1, 1) := by decide +kernel
theorem dX7_hitsOf_35 : decode cX7_hitsOf 35 = .ok (.goto 4, 3) := by decide +kernel
theorem dX7_hitsOf_38 : decode cX7_hitsOf 38 = .ok (.iconst 0, 1) := by decide +kernel
theorem dX7_hitsOf_39 : decode cX7_hitsOf 39 = .ok (.iadd, 1) := by decide +kernel
theorem dX7_hitsOf_40 : decode cX7_hitsOf 40 = .ok (.istore 5, 2) := by decide +kernel
theorem dX7_hitsOf_42 : decode cX7_hitsOf 42 = .ok (.iinc 6 1, 3) := by decide +kernel
theorem dX7_hitsOf_45 : decode cX7_hitsOf 45 = .ok (.goto (-39), 3) := by decide +kernel
theorem dX7_hitsOf_48 : decode cX7_hitsOf 48 = .ok (.iload 5, 2) := by decide +kernel
theorem dX7_hitsOf_50 : decode cX7_hitsOf 50 = .ok (.ireturn, 1) := by decide +kernel
set_option maxRecDepth 20000 in
theorem ggX7_isHop_X7_isPrime : GoodIn wsX7_isHop wsX7_isPrime := goodIn_r _ [4, 5, 6, 3, 7] (by decide +kernel) (by decide +kernel)
set_option maxRecDepth 20000 in
theorem gX7_isHop_X7_isPrime : GoodIn wsX7_isHop (va_wsS RX7 140 yX7_isPrime wsX7_isPrime) := goodIn_app (goodIn_of _ (by decide +kernel)) ggX7_isHop_X7_isPrime
set_option maxRecDepth 20000 in
theorem ggX7_isHop_X7_in : GoodIn wsX7_isHop wsX7_in := goodIn_r _ [7] (by decide +kernel) (by decide +kernel)
set_option maxRecDepth 20000 in
theorem gX7_isHop_X7_in : GoodIn wsX7_isHop (va_wsS RX7 51 yX7_in wsX7_in) := goodIn_app (goodIn_of _ (by decide +kernel)) ggX7_isHop_X7_in
theorem dX7_isHop_0 : decode cX7_isHop 0 = .ok (.iload_n 0, 1) := by decide +kernel
theorem dX7_isHop_1 : decode cX7_isHop 1 = .ok (.invokestatic 140, 3) := by decide +kernel
theorem dX7_isHop_4 : decode cX7_isHop 4 = .ok (.ifCond .eq 18, 3) := by decide +kernel
theorem dX7_isHop_7 : decode cX7_isHop 7 = .ok (.iload_n 1, 1) := by decide +kernel
theorem dX7_isHop_8 : decode cX7_isHop 8 = .ok (.iconst 1, 1) := by decide +kernel
theorem dX7_isHop_9 : decode cX7_isHop 9 = .ok (.iload_n 0, 1) := by decide +kernel
theorem dX7_isHop_10 : decode cX7_isHop 10 = .ok (.iconst 1, 1) := by decide +kernel
theorem dX7_isHop_11 : decode cX7_isHop 11 = .ok (.isub, 1) := by decide +kernel
theorem dX7_isHop_12 : decode cX7_isHop 12 = .ok (.invokestatic 51, 3) := by decide +kernel
theorem dX7_isHop_15 : decode cX7_isHop 15 = .ok (.ifCond .eq 7, 3) := by decide +kernel
theorem dX7_isHop_18 : decode cX7_isHop 18 = .ok (.iconst 1, 1) := by decide +kernel
theorem dX7_isHop_19 : decode cX7_isHop 19 = .ok (.goto 4, 3) := by decide +kernel
theorem dX7_isHop_22 : decode cX7_isHop 22 = .ok (.iconst 0, 1) := by decide +kernel
theorem dX7_isHop_23 : decode cX7_isHop 23 = .ok (.ireturn, 1) := by decide +kernel
set_option maxRecDepth 20000 in
theorem ggX7_hits_X7_isHop : GoodIn wsX7_hits wsX7_isHop := goodIn_r _ [4, 5, 6, 3, 7, 8, 9, 10] (by decide +kernel) (by decide +kernel)
set_option maxRecDepth 20000 in
theorem gX7_hits_X7_isHop : GoodIn wsX7_hits (va_wsS RX7 143 yX7_isHop wsX7_isHop) := goodIn_app (goodIn_of _ (by decide +kernel)) ggX7_hits_X7_isHop
set_option maxRecDepth 20000 in
theorem ggX7_hits_X7_in : GoodIn wsX7_hits wsX7_in := goodIn_r _ [10] (by decide +kernel) (by decide +kernel)
set_option maxRecDepth 20000 in
theorem gX7_hits_X7_in : GoodIn wsX7_hits (va_wsS RX7 51 yX7_in wsX7_in) := goodIn_app (goodIn_of _ (by decide +kernel)) ggX7_hits_X7_in
set_option maxRecDepth 20000 in
theorem ggX7_hits_X7_hitsOf : GoodIn wsX7_hits wsX7_hitsOf := goodIn_r _ [13] (by decide +kernel) (by decide +kernel)
set_option maxRecDepth 20000 in
theorem gX7_hits_X7_hitsOf : GoodIn wsX7_hits (va_wsS RX7 146 yX7_hitsOf wsX7_hitsOf) := goodIn_app (goodIn_of _ (by decide +kernel)) ggX7_hits_X7_hitsOf
theorem dX7_hits_0 : decode cX7_hits 0 = .ok (.iload_n 1, 1) := by decide +kernel
theorem dX7_hits_1 : decode cX7_hits 1 = .ok (.iload_n 2, 1) := by decide +kernel
theorem dX7_hits_2 : decode cX7_hits 2 = .ok (.invokestatic 143, 3) := by decide +kernel
theorem dX7_hits_5 : decode cX7_hits 5 = .ok (.ifCond .eq 48, 3) := by decide +kernel
theorem dX7_hits_8 : decode cX7_hits 8 = .ok (.iload_n 1, 1) := by decide +kernel
theorem dX7_hits_9 : decode cX7_hits 9 = .ok (.iload_n 3, 1) := by decide +kernel
theorem dX7_hits_10 : decode cX7_hits 10 = .ok (.invokestatic 143, 3) := by decide +kernel
theorem dX7_hits_13 : decode cX7_hits 13 = .ok (.ifCond .eq 40, 3) := by decide +kernel
theorem dX7_hits_16 : decode cX7_hits 16 = .ok (.iload 4, 2) := by decide +kernel
theorem dX7_hits_18 : decode cX7_hits 18 = .ok (.iconst 0, 1) := by decide +kernel
theorem dX7_hits_19 : decode cX7_hits 19 = .ok (.iload_n 1, 1) := by decide +kernel
theorem dX7_hits_20 : decode cX7_hits 20 = .ok (.iconst 1, 1) := by decide +kernel
theorem dX7_hits_21 : decode cX7_hits 21 = .ok (.isub, 1) := by decide +kernel
theorem dX7_hits_22 : decode cX7_hits 22 = .ok (.invokestatic 51, 3) := by decide +kernel
theorem dX7_hits_25 : decode cX7_hits 25 = .ok (.ifCond .eq 28, 3) := by decide +kernel
theorem dX7_hits_28 : decode cX7_hits 28 = .ok (.iload 5, 2) := by decide +kernel
theorem dX7_hits_30 : decode cX7_hits 30 = .ok (.iconst 0, 1) := by decide +kernel
theorem dX7_hits_31 : decode cX7_hits 31 = .ok (.iload_n 1, 1) := by decide +kernel
theorem dX7_hits_32 : decode cX7_hits 32 = .ok (.iconst 1, 1) := by decide +kernel
theorem dX7_hits_33 : decode cX7_hits 33 = .ok (.isub, 1) := by decide +kernel
theorem dX7_hits_34 : decode cX7_hits 34 = .ok (.invokestatic 51, 3) := by decide +kernel
theorem dX7_hits_37 : decode cX7_hits 37 = .ok (.ifCond .eq 16, 3) := by decide +kernel
theorem dX7_hits_40 : decode cX7_hits 40 = .ok (.iload_n 1, 1) := by decide +kernel
theorem dX7_hits_41 : decode cX7_hits 41 = .ok (.iload_n 2, 1) := by decide +kernel
theorem dX7_hits_42 : decode cX7_hits 42 = .ok (.iload_n 3, 1) := by decide +kernel
theorem dX7_hits_43 : decode cX7_hits 43 = .ok (.iload 4, 2) := by decide +kernel
theorem dX7_hits_45 : decode cX7_hits 45 = .ok (.iload 5, 2) := by decide +kernel
theorem dX7_hits_47 : decode cX7_hits 47 = .ok (.invokestatic 146, 3) := by decide +kernel
theorem dX7_hits_50 : decode cX7_hits 50 = .ok (.goto 5, 3) := by decide +kernel
theorem dX7_hits_53 : decode cX7_hits 53 = .ok (.bipush (-2), 2) := by decide +kernel
theorem dX7_hits_55 : decode cX7_hits 55 = .ok (.ireturn, 1) := by decide +kernel
set_option maxRecDepth 20000 in
theorem ggX7_worst_X7_isHop : GoodIn wsX7_worst wsX7_isHop := goodIn_r _ [4, 5, 6, 3, 7, 8, 9, 10] (by decide +kernel) (by decide +kernel)
set_option maxRecDepth 20000 in
theorem gX7_worst_X7_isHop : GoodIn wsX7_worst (va_wsS RX7 143 yX7_isHop wsX7_isHop) := goodIn_app (goodIn_of _ (by decide +kernel)) ggX7_worst_X7_isHop
set_option maxRecDepth 20000 in
theorem ggX7_worst_X7_hitsOf : GoodIn wsX7_worst wsX7_hitsOf := goodIn_r _ [13] (by decide +kernel) (by decide +kernel)
set_option maxRecDepth 20000 in
theorem gX7_worst_X7_hitsOf : GoodIn wsX7_worst (va_wsS RX7 146 yX7_hitsOf wsX7_hitsOf) := goodIn_app (goodIn_of _ (by decide +kernel)) ggX7_worst_X7_hitsOf
theorem dX7_worst_0 : decode cX7_worst 0 = .ok (.iload_n 1, 1) := by decide +kernel
theorem dX7_worst_1 : decode cX7_worst 1 = .ok (.iload_n 2, 1) := by decide +kernel
theorem dX7_worst_2 : decode cX7_worst 2 = .ok (.invokestatic 143, 3) := by decide +kernel
theorem dX7_worst_5 : decode cX7_worst 5 = .ok (.ifCond .eq 11, 3) := by decide +kernel
theorem dX7_worst_8 : decode cX7_worst 8 = .ok (.iload_n 1, 1) := by decide +kernel
theorem dX7_worst_9 : decode cX7_worst 9 = .ok (.iload_n 3, 1) := by decide +kernel
theorem dX7_worst_10 : decode cX7_worst 10 = .ok (.invokestatic 143, 3) := by decide +kernel
theorem dX7_worst_13 : decode cX7_worst 13 = .ok (.ifCond .ne 6, 3) := by decide +kernel
theorem dX7_worst_16 : decode cX7_worst 16 = .ok (.bipush (-2), 2) := by decide +kernel
theorem dX7_worst_18 : decode cX7_worst 18 = .ok (.ireturn, 1) := by decide +kernel
theorem dX7_worst_19 : decode cX7_worst 19 = .ok (.iconst 0, 1) := by decide +kernel
theorem dX7_worst_20 : decode cX7_worst 20 = .ok (.istore 4, 2) := by decide +kernel
theorem dX7_worst_22 : decode cX7_worst 22 = .ok (.iconst 0, 1) := by decide +kernel
theorem dX7_worst_23 : decode cX7_worst 23 = .ok (.istore 5, 2) := by decide +kernel
theorem dX7_worst_25 : decode cX7_worst 25 = .ok (.iload 5, 2) := by decide +kernel
theorem dX7_worst_27 : decode cX7_worst 27 = .ok (.iload_n 1, 1) := by decide +kernel
theorem dX7_worst_28 : decode cX7_worst 28 = .ok (.if_icmp .ge 71, 3) := by decide +kernel
theorem dX7_worst_31 : decode cX7_worst 31 = .ok (.iconst 0, 1) := by decide +kernel
theorem dX7_worst_32 : decode cX7_worst 32 = .ok (.istore 6, 2) := by decide +kernel
theorem dX7_worst_34 : decode cX7_worst 34 = .ok (.iload 6, 2) := by decide +kernel
theorem dX7_worst_36 : decode cX7_worst 36 = .ok (.iload_n 1, 1) := by decide +kernel
theorem dX7_worst_37 : decode cX7_worst 37 = .ok (.if_icmp .ge 56, 3) := by decide +kernel
theorem dX7_worst_40 : decode cX7_worst 40 = .ok (.iload_n 2, 1) := by decide +kernel
theorem dX7_worst_41 : decode cX7_worst 41 = .ok (.iload_n 3, 1) := by decide +kernel
theorem dX7_worst_42 : decode cX7_worst 42 = .ok (.if_icmp .ne 17, 3) := by decide +kernel
theorem dX7_worst_45 : decode cX7_worst 45 = .ok (.iload 5, 2) := by decide +kernel
theorem dX7_worst_47 : decode cX7_worst 47 = .ok (.ifCond .ne 12, 3) := by decide +kernel
theorem dX7_worst_50 : decode cX7_worst 50 = .ok (.iload 6, 2) := by decide +kernel
theorem dX7_worst_52 : decode cX7_worst 52 = .ok (.ifCond .ne 7, 3) := by decide +kernel
theorem dX7_worst_55 : decode cX7_worst 55 = .ok (.iconst 0, 1) := by decide +kernel
theorem dX7_worst_56 : decode cX7_worst 56 = .ok (.goto 13, 3) := by decide +kernel
theorem dX7_worst_59 : decode cX7_worst 59 = .ok (.iload_n 1, 1) := by decide +kernel
theorem dX7_worst_60 : decode cX7_worst 60 = .ok (.iload_n 2, 1) := by decide +kernel
theorem dX7_worst_61 : decode cX7_worst 61 = .ok (.iload_n 3, 1) := by decide +kernel
theorem dX7_worst_62 : decode cX7_worst 62 = .ok (.iload 5, 2) := by decide +kernel
theorem dX7_worst_64 : decode cX7_worst 64 = .ok (.iload 6, 2) := by decide +kernel
theorem dX7_worst_66 : decode cX7_worst 66 = .ok (.invokestatic 146, 3) := by decide +kernel
theorem dX7_worst_69 : decode cX7_worst 69 = .ok (.istore 7, 2) := by decide +kernel
theorem dX7_worst_71 : decode cX7_worst 71 = .ok (.iload 7, 2) := by decide +kernel
theorem dX7_worst_73 : decode cX7_worst 73 = .ok (.iload 4, 2) := by decide +kernel
theorem dX7_worst_75 : decode cX7_worst 75 = .ok (.if_icmp .le 8, 3) := by decide +kernel
theorem dX7_worst_78 : decode cX7_worst 78 = .ok (.iload 7, 2) := by decide +kernel
theorem dX7_worst_80 : decode cX7_worst 80 = .ok (.goto 5, 3) := by decide +kernel
theorem dX7_worst_83 : decode cX7_worst 83 = .ok (.iload 4, 2) := by decide +kernel
theorem dX7_worst_85 : decode cX7_worst 85 = .ok (.istore 4, 2) := by decide +kernel
theorem dX7_worst_87 : decode cX7_worst 87 = .ok (.iinc 6 1, 3) := by decide +kernel
theorem dX7_worst_90 : decode cX7_worst 90 = .ok (.goto (-56), 3) := by decide +kernel
theorem dX7_worst_93 : decode cX7_worst 93 = .ok (.iinc 5 1, 3) := by decide +kernel
theorem dX7_worst_96 : decode cX7_worst 96 = .ok (.goto (-71), 3) := by decide +kernel
theorem dX7_worst_99 : decode cX7_worst 99 = .ok (.iload 4, 2) := by decide +kernel
theorem dX7_worst_101 : decode cX7_worst 101 = .ok (.ireturn, 1) := by decide +kernel
theorem dX7_meets_0 : decode cX7_meets 0 = .ok (.aload_n 0, 1) := by decide +kernel
theorem dX7_meets_1 : decode cX7_meets 1 = .ok (.iload_n 1, 1) := by decide +kernel
theorem dX7_meets_2 : decode cX7_meets 2 = .ok (.putfield 149, 3) := by decide +kernel
theorem dX7_meets_5 : decode cX7_meets 5 = .ok (.bipush (-10), 2) := by decide +kernel
theorem dX7_meets_7 : decode cX7_meets 7 = .ok (.iload_n 1, 1) := by decide +kernel
theorem dX7_meets_8 : decode cX7_meets 8 = .ok (.isub, 1) := by decide +kernel
theorem dX7_meets_9 : decode cX7_meets 9 = .ok (.ireturn, 1) := by decide +kernel
set_option maxRecDepth 20000 in
theorem ggX7_isReel_X7_in : GoodIn wsX7_isReel wsX7_in := goodIn_r _ [4] (by decide +kernel) (by decide +kernel)
set_option maxRecDepth 20000 in
theorem gX7_isReel_X7_in : GoodIn wsX7_isReel (va_wsS RX7 51 yX7_in wsX7_in) := goodIn_app (goodIn_of _ (by decide +kernel)) ggX7_isReel_X7_in
theorem dX7_isReel_0 : decode cX7_isReel 0 = .ok (.iload_n 0, 1) := by decide +kernel
theorem dX7_isReel_1 : decode cX7_isReel 1 = .ok (.iconst 0, 1) := by decide +kernel
theorem dX7_isReel_2 : decode cX7_isReel 2 = .ok (.iconst 3, 1) := by decide +kernel
theorem dX7_isReel_3 : decode cX7_isReel 3 = .ok (.invokestatic 51, 3) := by decide +kernel
theorem dX7_isReel_6 : decode cX7_isReel 6 = .ok (.ireturn, 1) := by decide +kernel
set_option maxRecDepth 20000 in
theorem ggX7_reel_X7_isReel : GoodIn wsX7_reel wsX7_isReel := goodIn_r _ [8, 9, 10, 7, 11] (by decide +kernel) (by decide +kernel)
set_option maxRecDepth 20000 in
theorem gX7_reel_X7_isReel : GoodIn wsX7_reel (va_wsS RX7 84 yX7_isReel wsX7_isReel) := goodIn_app (goodIn_of _ (by decide +kernel)) ggX7_reel_X7_isReel
set_option maxRecDepth 20000 in
theorem ggX7_reel_X7_in : GoodIn wsX7_reel wsX7_in := goodIn_r _ [11] (by decide +kernel) (by decide +kernel)
set_option maxRecDepth 20000 in
theorem gX7_reel_X7_in : GoodIn wsX7_reel (va_wsS RX7 51 yX7_in wsX7_in) := goodIn_app (goodIn_of _ (by decide +kernel)) ggX7_reel_X7_in
set_option maxRecDepth 20000 in
theorem ggX7_reel_X7_meets : GoodIn wsX7_reel wsX7_meets := goodIn_r _ [15, 16, 17, 18, 19, 20, 21, 22, 23, 24, 25, 26, 27, 28, 29, 30, 31, 32, 33, 34, 35] (by decide +kernel) (by decide +kernel)
set_option maxRecDepth 20000 in
theorem gX7_reel_X7_meets : GoodIn wsX7_reel (wsV RX7 87 RX7 yX7_meets wsX7_meets) := goodIn_app (goodIn_of _ (by decide +kernel)) ggX7_reel_X7_meets
theorem dX7_reel_0 : decode cX7_reel 0 = .ok (.iload_n 1, 1) := by decide +kernel
theorem dX7_reel_1 : decode cX7_reel 1 = .ok (.invokestatic 84, 3) := by decide +kernel
theorem dX7_reel_4 : decode cX7_reel 4 = .ok (.ifCond .eq 19, 3) := by decide +kernel
theorem dX7_reel_7 : decode cX7_reel 7 = .ok (.iload_n 2, 1) := by decide +kernel
theorem dX7_reel_8 : decode cX7_reel 8 = .ok (.iconst 0, 1) := by decide +kernel
theorem dX7_reel_9 : decode cX7_reel 9 = .ok (.iconst 2, 1) := by decide +kernel
theorem dX7_reel_10 : decode cX7_reel 10 = .ok (.invokestatic 51, 3) := by decide +kernel
theorem dX7_reel_13 : decode cX7_reel 13 = .ok (.ifCond .eq 10, 3) := by decide +kernel
theorem dX7_reel_16 : decode cX7_reel 16 = .ok (.iload_n 3, 1) := by decide +kernel
theorem dX7_reel_17 : decode cX7_reel 17 = .ok (.sipush 300, 3) := by decide +kernel
theorem dX7_reel_20 : decode cX7_reel 20 = .ok (.if_icmp .le 6, 3) := by decide +kernel
theorem dX7_reel_23 : decode cX7_reel 23 = .ok (.bipush (-2), 2) := by decide +kernel
theorem dX7_reel_25 : decode cX7_reel 25 = .ok (.ireturn, 1) := by decide +kernel
theorem dX7_reel_26 : decode cX7_reel 26 = .ok (.iload_n 3, 1) := by decide +kernel
theorem dX7_reel_27 : decode cX7_reel 27 = .ok (.ifCond .ge 9, 3) := by decide +kernel
theorem dX7_reel_30 : decode cX7_reel 30 = .ok (.aload_n 0, 1) := by decide +kernel
theorem dX7_reel_31 : decode cX7_reel 31 = .ok (.iconst 5, 1) := by decide +kernel
theorem dX7_reel_32 : decode cX7_reel 32 = .ok (.invokevirtual 87, 3) := by decide +kernel
theorem dX7_reel_35 : decode cX7_reel 35 = .ok (.ireturn, 1) := by decide +kernel
theorem dX7_reel_36 : decode cX7_reel 36 = .ok (.aload_n 0, 1) := by decide +kernel
theorem dX7_reel_37 : decode cX7_reel 37 = .ok (.getfield 35, 3) := by decide +kernel
theorem dX7_reel_40 : decode cX7_reel 40 = .ok (.iload_n 1, 1) := by decide +kernel
end
section
theorem dX7_reel_41 : decode cX7_reel 41 = .ok (.iconst 1, 1) := by decide +kernel
theorem dX7_reel_42 : decode cX7_reel 42 = .ok (.bastore, 1) := by decide +kernel
theorem dX7_reel_43 : decode cX7_reel 43 = .ok (.aload_n 0, 1) := by decide +kernel
theorem dX7_reel_44 : decode cX7_reel 44 = .ok (.getfield 39, 3) := by decide +kernel
theorem dX7_reel_47 : decode cX7_reel 47 = .ok (.iload_n 1, 1) := by decide +kernel
theorem dX7_reel_48 : decode cX7_reel 48 = .ok (.iload_n 2, 1) := by decide +kernel
theorem dX7_reel_49 : decode cX7_reel 49 = .ok (.iastore, 1) := by decide +kernel
theorem dX7_reel_50 : decode cX7_reel 50 = .ok (.aload_n 0, 1) := by decide +kernel
theorem dX7_reel_51 : decode cX7_reel 51 = .ok (.getfield 42, 3) := by decide +kernel
theorem dX7_reel_54 : decode cX7_reel 54 = .ok (.iload_n 1, 1) := by decide +kernel
theorem dX7_reel_55 : decode cX7_reel 55 = .ok (.iload_n 3, 1) := by decide +kernel
theorem dX7_reel_56 : decode cX7_reel 56 = .ok (.iastore, 1) := by decide +kernel
theorem dX7_reel_57 : decode cX7_reel 57 = .ok (.iconst 0, 1) := by decide +kernel
theorem dX7_reel_58 : decode cX7_reel 58 = .ok (.istore 4, 2) := by decide +kernel
theorem dX7_reel_60 : decode cX7_reel 60 = .ok (.iload 4, 2) := by decide +kernel
theorem dX7_reel_62 : decode cX7_reel 62 = .ok (.sipush 300, 3) := by decide +kernel
theorem dX7_reel_65 : decode cX7_reel 65 = .ok (.if_icmp .ge 23, 3) := by decide +kernel
theorem dX7_reel_68 : decode cX7_reel 68 = .ok (.aload_n 0, 1) := by decide +kernel
theorem dX7_reel_69 : decode cX7_reel 69 = .ok (.getfield 45, 3) := by decide +kernel
theorem dX7_reel_72 : decode cX7_reel 72 = .ok (.sipush 300, 3) := by decide +kernel
theorem dX7_reel_75 : decode cX7_reel 75 = .ok (.iload_n 1, 1) := by decide +kernel
theorem dX7_reel_76 : decode cX7_reel 76 = .ok (.imul, 1) := by decide +kernel
theorem dX7_reel_77 : decode cX7_reel 77 = .ok (.iload 4, 2) := by decide +kernel
theorem dX7_reel_79 : decode cX7_reel 79 = .ok (.iadd, 1) := by decide +kernel
theorem dX7_reel_80 : decode cX7_reel 80 = .ok (.iconst 0, 1) := by decide +kernel
theorem dX7_reel_81 : decode cX7_reel 81 = .ok (.iastore, 1) := by decide +kernel
theorem dX7_reel_82 : decode cX7_reel 82 = .ok (.iinc 4 1, 3) := by decide +kernel
theorem dX7_reel_85 : decode cX7_reel 85 = .ok (.goto (-25), 3) := by decide +kernel
theorem dX7_reel_88 : decode cX7_reel 88 = .ok (.iload_n 3, 1) := by decide +kernel
theorem dX7_reel_89 : decode cX7_reel 89 = .ok (.ireturn, 1) := by decide +kernel
set_option maxRecDepth 20000 in
theorem ggX7_lose_X7_isReel : GoodIn wsX7_lose wsX7_isReel := goodIn_r _ [6, 7, 8, 5, 9] (by decide +kernel) (by decide +kernel)
set_option maxRecDepth 20000 in
theorem gX7_lose_X7_isReel : GoodIn wsX7_lose (va_wsS RX7 84 yX7_isReel wsX7_isReel) := goodIn_app (goodIn_of _ (by decide +kernel)) ggX7_lose_X7_isReel
set_option maxRecDepth 20000 in
theorem ggX7_lose_X7_meets : GoodIn wsX7_lose wsX7_meets := goodIn_r _ [13, 14, 15, 16, 17, 18, 19, 20, 21, 22, 23, 24, 25, 26, 27, 28, 29, 30, 31, 32, 33] (by decide +kernel) (by decide +kernel)
set_option maxRecDepth 20000 in
theorem gX7_lose_X7_meets : GoodIn wsX7_lose (wsV RX7 87 RX7 yX7_meets wsX7_meets) := goodIn_app (goodIn_of _ (by decide +kernel)) ggX7_lose_X7_meets
theorem dX7_lose_0 : decode cX7_lose 0 = .ok (.iload_n 1, 1) := by decide +kernel
theorem dX7_lose_1 : decode cX7_lose 1 = .ok (.invokestatic 84, 3) := by decide +kernel
theorem dX7_lose_4 : decode cX7_lose 4 = .ok (.ifCond .ne 6, 3) := by decide +kernel
theorem dX7_lose_7 : decode cX7_lose 7 = .ok (.bipush (-2), 2) := by decide +kernel
theorem dX7_lose_9 : decode cX7_lose 9 = .ok (.ireturn, 1) := by decide +kernel
theorem dX7_lose_10 : decode cX7_lose 10 = .ok (.aload_n 0, 1) := by decide +kernel
theorem dX7_lose_11 : decode cX7_lose 11 = .ok (.getfield 35, 3) := by decide +kernel
theorem dX7_lose_14 : decode cX7_lose 14 = .ok (.iload_n 1, 1) := by decide +kernel
theorem dX7_lose_15 : decode cX7_lose 15 = .ok (.baload, 1) := by decide +kernel
theorem dX7_lose_16 : decode cX7_lose 16 = .ok (.ifCond .ne 9, 3) := by decide +kernel
theorem dX7_lose_19 : decode cX7_lose 19 = .ok (.aload_n 0, 1) := by decide +kernel
theorem dX7_lose_20 : decode cX7_lose 20 = .ok (.iconst 1, 1) := by decide +kernel
theorem dX7_lose_21 : decode cX7_lose 21 = .ok (.invokevirtual 87, 3) := by decide +kernel
theorem dX7_lose_24 : decode cX7_lose 24 = .ok (.ireturn, 1) := by decide +kernel
theorem dX7_lose_25 : decode cX7_lose 25 = .ok (.aload_n 0, 1) := by decide +kernel
theorem dX7_lose_26 : decode cX7_lose 26 = .ok (.getfield 35, 3) := by decide +kernel
theorem dX7_lose_29 : decode cX7_lose 29 = .ok (.iload_n 1, 1) := by decide +kernel
theorem dX7_lose_30 : decode cX7_lose 30 = .ok (.iconst 0, 1) := by decide +kernel
theorem dX7_lose_31 : decode cX7_lose 31 = .ok (.bastore, 1) := by decide +kernel
theorem dX7_lose_32 : decode cX7_lose 32 = .ok (.aload_n 0, 1) := by decide +kernel
theorem dX7_lose_33 : decode cX7_lose 33 = .ok (.getfield 42, 3) := by decide +kernel
theorem dX7_lose_36 : decode cX7_lose 36 = .ok (.iload_n 1, 1) := by decide +kernel
theorem dX7_lose_37 : decode cX7_lose 37 = .ok (.iaload, 1) := by decide +kernel
theorem dX7_lose_38 : decode cX7_lose 38 = .ok (.ireturn, 1) := by decide +kernel
set_option maxRecDepth 20000 in
theorem ggX7_lacks_X7_in : GoodIn wsX7_lacks wsX7_in := goodIn_r _ [7] (by decide +kernel) (by decide +kernel)
set_option maxRecDepth 20000 in
theorem gX7_lacks_X7_in : GoodIn wsX7_lacks (va_wsS RX7 51 yX7_in wsX7_in) := goodIn_app (goodIn_of _ (by decide +kernel)) ggX7_lacks_X7_in
theorem dX7_lacks_0 : decode cX7_lacks 0 = .ok (.aload_n 0, 1) := by decide +kernel
theorem dX7_lacks_1 : decode cX7_lacks 1 = .ok (.getfield 35, 3) := by decide +kernel
theorem dX7_lacks_4 : decode cX7_lacks 4 = .ok (.iload_n 1, 1) := by decide +kernel
theorem dX7_lacks_5 : decode cX7_lacks 5 = .ok (.baload, 1) := by decide +kernel
theorem dX7_lacks_6 : decode cX7_lacks 6 = .ok (.ifCond .ne 7, 3) := by decide +kernel
theorem dX7_lacks_9 : decode cX7_lacks 9 = .ok (.iconst 1, 1) := by decide +kernel
theorem dX7_lacks_10 : decode cX7_lacks 10 = .ok (.goto 38, 3) := by decide +kernel
theorem dX7_lacks_13 : decode cX7_lacks 13 = .ok (.aload_n 0, 1) := by decide +kernel
theorem dX7_lacks_14 : decode cX7_lacks 14 = .ok (.getfield 39, 3) := by decide +kernel
theorem dX7_lacks_17 : decode cX7_lacks 17 = .ok (.iload_n 1, 1) := by decide +kernel
theorem dX7_lacks_18 : decode cX7_lacks 18 = .ok (.iaload, 1) := by decide +kernel
theorem dX7_lacks_19 : decode cX7_lacks 19 = .ok (.iload_n 2, 1) := by decide +kernel
theorem dX7_lacks_20 : decode cX7_lacks 20 = .ok (.if_icmp .eq 7, 3) := by decide +kernel
theorem dX7_lacks_23 : decode cX7_lacks 23 = .ok (.iconst 3, 1) := by decide +kernel
theorem dX7_lacks_24 : decode cX7_lacks 24 = .ok (.goto 24, 3) := by decide +kernel
theorem dX7_lacks_27 : decode cX7_lacks 27 = .ok (.iload_n 3, 1) := by decide +kernel
theorem dX7_lacks_28 : decode cX7_lacks 28 = .ok (.iconst 0, 1) := by decide +kernel
theorem dX7_lacks_29 : decode cX7_lacks 29 = .ok (.aload_n 0, 1) := by decide +kernel
theorem dX7_lacks_30 : decode cX7_lacks 30 = .ok (.getfield 42, 3) := by decide +kernel
theorem dX7_lacks_33 : decode cX7_lacks 33 = .ok (.iload_n 1, 1) := by decide +kernel
theorem dX7_lacks_34 : decode cX7_lacks 34 = .ok (.iaload, 1) := by decide +kernel
theorem dX7_lacks_35 : decode cX7_lacks 35 = .ok (.iconst 1, 1) := by decide +kernel
theorem dX7_lacks_36 : decode cX7_lacks 36 = .ok (.isub, 1) := by decide +kernel
theorem dX7_lacks_37 : decode cX7_lacks 37 = .ok (.invokestatic 51, 3) := by decide +kernel
theorem dX7_lacks_40 : decode cX7_lacks 40 = .ok (.ifCond .eq 7, 3) := by decide +kernel
theorem dX7_lacks_43 : decode cX7_lacks 43 = .ok (.iconst 0, 1) := by decide +kernel
theorem dX7_lacks_44 : decode cX7_lacks 44 = .ok (.goto 4, 3) := by decide +kernel
theorem dX7_lacks_47 : decode cX7_lacks 47 = .ok (.iconst 2, 1) := by decide +kernel
theorem dX7_lacks_48 : decode cX7_lacks 48 = .ok (.ireturn, 1) := by decide +kernel
theorem dX7_cut_0 : decode cX7_cut 0 = .ok (.iload_n 0, 1) := by decide +kernel
theorem dX7_cut_1 : decode cX7_cut 1 = .ok (.ifCond .ne 8, 3) := by decide +kernel
theorem dX7_cut_4 : decode cX7_cut 4 = .ok (.iload_n 1, 1) := by decide +kernel
theorem dX7_cut_5 : decode cX7_cut 5 = .ok (.i2b, 1) := by decide +kernel
theorem dX7_cut_6 : decode cX7_cut 6 = .ok (.goto 14, 3) := by decide +kernel
theorem dX7_cut_9 : decode cX7_cut 9 = .ok (.iload_n 0, 1) := by decide +kernel
theorem dX7_cut_10 : decode cX7_cut 10 = .ok (.iconst 1, 1) := by decide +kernel
theorem dX7_cut_11 : decode cX7_cut 11 = .ok (.if_icmp .ne 8, 3) := by decide +kernel
theorem dX7_cut_14 : decode cX7_cut 14 = .ok (.iload_n 1, 1) := by decide +kernel
theorem dX7_cut_15 : decode cX7_cut 15 = .ok (.i2s, 1) := by decide +kernel
theorem dX7_cut_16 : decode cX7_cut 16 = .ok (.goto 4, 3) := by decide +kernel
theorem dX7_cut_19 : decode cX7_cut 19 = .ok (.iload_n 1, 1) := by decide +kernel
theorem dX7_cut_20 : decode cX7_cut 20 = .ok (.ireturn, 1) := by decide +kernel
set_option maxRecDepth 20000 in
theorem ggX7_put_X7_isReel : GoodIn wsX7_put wsX7_isReel := goodIn_r _ [5, 6, 7, 4, 8] (by decide +kernel) (by decide +kernel)
set_option maxRecDepth 20000 in
theorem gX7_put_X7_isReel : GoodIn wsX7_put (va_wsS RX7 84 yX7_isReel wsX7_isReel) := goodIn_app (goodIn_of _ (by decide +kernel)) ggX7_put_X7_isReel
set_option maxRecDepth 20000 in
theorem ggX7_put_X7_in : GoodIn wsX7_put wsX7_in := goodIn_r _ [8] (by decide +kernel) (by decide +kernel)
set_option maxRecDepth 20000 in
theorem gX7_put_X7_in : GoodIn wsX7_put (va_wsS RX7 51 yX7_in wsX7_in) := goodIn_app (goodIn_of _ (by decide +kernel)) ggX7_put_X7_in
set_option maxRecDepth 20000 in
theorem ggX7_put_X7_lacks : GoodIn wsX7_put wsX7_lacks := goodIn_r _ [12, 13, 14, 15, 6, 7, 4, 8, 24, 25, 26, 27, 28, 29, 30, 31, 32, 33, 34, 35, 36, 37, 38, 39, 40, 41, 42] (by decide +kernel) (by decide +kernel)
set_option maxRecDepth 20000 in
theorem gX7_put_X7_lacks : GoodIn wsX7_put (wsV RX7 152 RX7 yX7_lacks wsX7_lacks) := goodIn_app (goodIn_of _ (by decide +kernel)) ggX7_put_X7_lacks
set_option maxRecDepth 20000 in
theorem ggX7_put_X7_meets : GoodIn wsX7_put wsX7_meets := goodIn_r _ [19, 20, 24, 25, 26, 27, 28, 29, 30, 31, 32, 33, 34, 35, 36, 37, 38, 39, 40, 41, 42] (by decide +kernel) (by decide +kernel)
set_option maxRecDepth 20000 in
theorem gX7_put_X7_meets : GoodIn wsX7_put (wsV RX7 87 RX7 yX7_meets wsX7_meets) := goodIn_app (goodIn_of _ (by decide +kernel)) ggX7_put_X7_meets
set_option maxRecDepth 20000 in
theorem ggX7_put_X7_cut : GoodIn wsX7_put wsX7_cut := goodIn_r _ [23] (by decide +kernel) (by decide +kernel)
set_option maxRecDepth 20000 in
theorem gX7_put_X7_cut : GoodIn wsX7_put (va_wsS RX7 155 yX7_cut wsX7_cut) := goodIn_app (goodIn_of _ (by decide +kernel)) ggX7_put_X7_cut
theorem dX7_put_0 : decode cX7_put 0 = .ok (.iload_n 1, 1) := by decide +kernel
theorem dX7_put_1 : decode cX7_put 1 = .ok (.invokestatic 84, 3) := by decide +kernel
theorem dX7_put_4 : decode cX7_put 4 = .ok (.ifCond .eq 12, 3) := by decide +kernel
theorem dX7_put_7 : decode cX7_put 7 = .ok (.iload_n 2, 1) := by decide +kernel
theorem dX7_put_8 : decode cX7_put 8 = .ok (.iconst 0, 1) := by decide +kernel
theorem dX7_put_9 : decode cX7_put 9 = .ok (.iconst 2, 1) := by decide +kernel
theorem dX7_put_10 : decode cX7_put 10 = .ok (.invokestatic 51, 3) := by decide +kernel
theorem dX7_put_13 : decode cX7_put 13 = .ok (.ifCond .ne 6, 3) := by decide +kernel
theorem dX7_put_16 : decode cX7_put 16 = .ok (.bipush (-2), 2) := by decide +kernel
theorem dX7_put_18 : decode cX7_put 18 = .ok (.ireturn, 1) := by decide +kernel
theorem dX7_put_19 : decode cX7_put 19 = .ok (.aload_n 0, 1) := by decide +kernel
theorem dX7_put_20 : decode cX7_put 20 = .ok (.iload_n 1, 1) := by decide +kernel
theorem dX7_put_21 : decode cX7_put 21 = .ok (.iload_n 2, 1) := by decide +kernel
theorem dX7_put_22 : decode cX7_put 22 = .ok (.iload_n 3, 1) := by decide +kernel
theorem dX7_put_23 : decode cX7_put 23 = .ok (.invokevirtual 152, 3) := by decide +kernel
theorem dX7_put_26 : decode cX7_put 26 = .ok (.istore 5, 2) := by decide +kernel
theorem dX7_put_28 : decode cX7_put 28 = .ok (.iload 5, 2) := by decide +kernel
theorem dX7_put_30 : decode cX7_put 30 = .ok (.ifCond .le 10, 3) := by decide +kernel
theorem dX7_put_33 : decode cX7_put 33 = .ok (.aload_n 0, 1) := by decide +kernel
theorem dX7_put_34 : decode cX7_put 34 = .ok (.iload 5, 2) := by decide +kernel
theorem dX7_put_36 : decode cX7_put 36 = .ok (.invokevirtual 87, 3) := by decide +kernel
theorem dX7_put_39 : decode cX7_put 39 = .ok (.ireturn, 1) := by decide +kernel
theorem dX7_put_40 : decode cX7_put 40 = .ok (.aload_n 0, 1) := by decide +kernel
theorem dX7_put_41 : decode cX7_put 41 = .ok (.getfield 45, 3) := by decide +kernel
theorem dX7_put_44 : decode cX7_put 44 = .ok (.sipush 300, 3) := by decide +kernel
theorem dX7_put_47 : decode cX7_put 47 = .ok (.iload_n 1, 1) := by decide +kernel
theorem dX7_put_48 : decode cX7_put 48 = .ok (.imul, 1) := by decide +kernel
theorem dX7_put_49 : decode cX7_put 49 = .ok (.iload_n 3, 1) := by decide +kernel
theorem dX7_put_50 : decode cX7_put 50 = .ok (.iadd, 1) := by decide +kernel
theorem dX7_put_51 : decode cX7_put 51 = .ok (.iload_n 2, 1) := by decide +kernel
theorem dX7_put_52 : decode cX7_put 52 = .ok (.iload 4, 2) := by decide +kernel
theorem dX7_put_54 : decode cX7_put 54 = .ok (.invokestatic 155, 3) := by decide +kernel
theorem dX7_put_57 : decode cX7_put 57 = .ok (.iastore, 1) := by decide +kernel
theorem dX7_put_58 : decode cX7_put 58 = .ok (.iconst 1, 1) := by decide +kernel
theorem dX7_put_59 : decode cX7_put 59 = .ok (.ireturn, 1) := by decide +kernel
set_option maxRecDepth 20000 in
theorem ggX7_get_X7_isReel : GoodIn wsX7_get wsX7_isReel := goodIn_r _ [7, 8, 9, 6, 10] (by decide +kernel) (by decide +kernel)
set_option maxRecDepth 20000 in
theorem gX7_get_X7_isReel : GoodIn wsX7_get (va_wsS RX7 84 yX7_isReel wsX7_isReel) := goodIn_app (goodIn_of _ (by decide +kernel)) ggX7_get_X7_isReel
set_option maxRecDepth 20000 in
theorem ggX7_get_X7_in : GoodIn wsX7_get wsX7_in := goodIn_r _ [10] (by decide +kernel) (by decide +kernel)
set_option maxRecDepth 20000 in
theorem gX7_get_X7_in : GoodIn wsX7_get (va_wsS RX7 51 yX7_in wsX7_in) := goodIn_app (goodIn_of _ (by decide +kernel)) ggX7_get_X7_in
set_option maxRecDepth 20000 in
theorem ggX7_get_X7_lacks : GoodIn wsX7_get wsX7_lacks := goodIn_r _ [14, 15, 16, 17, 8, 9, 6, 10, 18, 19, 20, 21, 22, 23, 24, 25, 26, 27, 28, 29, 30, 31, 32, 33, 34, 35, 36] (by decide +kernel) (by decide +kernel)
set_option maxRecDepth 20000 in
theorem gX7_get_X7_lacks : GoodIn wsX7_get (wsV RX7 152 RX7 yX7_lacks wsX7_lacks) := goodIn_app (goodIn_of _ (by decide +kernel)) ggX7_get_X7_lacks
theorem dX7_get_0 : decode cX7_get 0 = .ok (.iload_n 1, 1) := by decide +kernel
theorem dX7_get_1 : decode cX7_get 1 = .ok (.invokestatic 84, 3) := by decide +kernel
theorem dX7_get_4 : decode cX7_get 4 = .ok (.ifCond .eq 12, 3) := by decide +kernel
theorem dX7_get_7 : decode cX7_get 7 = .ok (.iload_n 2, 1) := by decide +kernel
theorem dX7_get_8 : decode cX7_get 8 = .ok (.iconst 0, 1) := by decide +kernel
theorem dX7_get_9 : decode cX7_get 9 = .ok (.iconst 2, 1) := by decide +kernel
theorem dX7_get_10 : decode cX7_get 10 = .ok (.invokestatic 51, 3) := by decide +kernel
theorem dX7_get_13 : decode cX7_get 13 = .ok (.ifCond .ne 6, 3) := by decide +kernel
theorem dX7_get_16 : decode cX7_get 16 = .ok (.ldc 97, 2) := by decide +kernel
theorem dX7_get_18 : decode cX7_get 18 = .ok (.ireturn, 1) := by decide +kernel
theorem dX7_get_19 : decode cX7_get 19 = .ok (.aload_n 0, 1) := by decide +kernel
theorem dX7_get_20 : decode cX7_get 20 = .ok (.iload_n 1, 1) := by decide +kernel
theorem dX7_get_21 : decode cX7_get 21 = .ok (.iload_n 2, 1) := by decide +kernel
theorem dX7_get_22 : decode cX7_get 22 = .ok (.iload_n 3, 1) := by decide +kernel
theorem dX7_get_23 : decode cX7_get 23 = .ok (.invokevirtual 152, 3) := by decide +kernel
theorem dX7_get_26 : decode cX7_get 26 = .ok (.istore 4, 2) := by decide +kernel
theorem dX7_get_28 : decode cX7_get 28 = .ok (.iload 4, 2) := by decide +kernel
theorem dX7_get_30 : decode cX7_get 30 = .ok (.ifCond .le 12, 3) := by decide +kernel
theorem dX7_get_33 : decode cX7_get 33 = .ok (.aload_n 0, 1) := by decide +kernel
theorem dX7_get_34 : decode cX7_get 34 = .ok (.iload 4, 2) := by decide +kernel
theorem dX7_get_36 : decode cX7_get 36 = .ok (.putfield 149, 3) := by decide +kernel
theorem dX7_get_39 : decode cX7_get 39 = .ok (.ldc 97, 2) := by decide +kernel
theorem dX7_get_41 : decode cX7_get 41 = .ok (.ireturn, 1) := by decide +kernel
theorem dX7_get_42 : decode cX7_get 42 = .ok (.aload_n 0, 1) := by decide +kernel
theorem dX7_get_43 : decode cX7_get 43 = .ok (.getfield 45, 3) := by decide +kernel
theorem dX7_get_46 : decode cX7_get 46 = .ok (.sipush 300, 3) := by decide +kernel
theorem dX7_get_49 : decode cX7_get 49 = .ok (.iload_n 1, 1) := by decide +kernel
theorem dX7_get_50 : decode cX7_get 50 = .ok (.imul, 1) := by decide +kernel
theorem dX7_get_51 : decode cX7_get 51 = .ok (.iload_n 3, 1) := by decide +kernel
theorem dX7_get_52 : decode cX7_get 52 = .ok (.iadd, 1) := by decide +kernel
theorem dX7_get_53 : decode cX7_get 53 = .ok (.iaload, 1) := by decide +kernel
theorem dX7_get_54 : decode cX7_get 54 = .ok (.ireturn, 1) := by decide +kernel
set_option maxRecDepth 20000 in
theorem ggX7_copy_X7_isReel : GoodIn wsX7_copy wsX7_isReel := goodIn_r _ [9, 10, 11, 8, 12] (by decide +kernel) (by decide +kernel)
set_option maxRecDepth 20000 in
theorem gX7_copy_X7_isReel : GoodIn wsX7_copy (va_wsS RX7 84 yX7_isReel wsX7_isReel) := goodIn_app (goodIn_of _ (by decide +kernel)) ggX7_copy_X7_isReel
set_option maxRecDepth 20000 in
theorem ggX7_copy_X7_meets : GoodIn wsX7_copy wsX7_meets := goodIn_r _ [16, 17, 18, 19, 20, 21, 22, 23, 24, 25, 26, 27, 28, 29, 30, 31, 32, 33, 34, 35, 36] (by decide +kernel) (by decide +kernel)
set_option maxRecDepth 20000 in
theorem gX7_copy_X7_meets : GoodIn wsX7_copy (wsV RX7 87 RX7 yX7_meets wsX7_meets) := goodIn_app (goodIn_of _ (by decide +kernel)) ggX7_copy_X7_meets
theorem dX7_copy_0 : decode cX7_copy 0 = .ok (.iload_n 1, 1) := by decide +kernel
theorem dX7_copy_1 : decode cX7_copy 1 = .ok (.invokestatic 84, 3) := by decide +kernel
theorem dX7_copy_4 : decode cX7_copy 4 = .ok (.ifCond .eq 10, 3) := by decide +kernel
theorem dX7_copy_7 : decode cX7_copy 7 = .ok (.iload_n 3, 1) := by decide +kernel
theorem dX7_copy_8 : decode cX7_copy 8 = .ok (.invokestatic 84, 3) := by decide +kernel
theorem dX7_copy_11 : decode cX7_copy 11 = .ok (.ifCond .ne 6, 3) := by decide +kernel
theorem dX7_copy_14 : decode cX7_copy 14 = .ok (.bipush (-2), 2) := by decide +kernel
theorem dX7_copy_16 : decode cX7_copy 16 = .ok (.ireturn, 1) := by decide +kernel
theorem dX7_copy_17 : decode cX7_copy 17 = .ok (.aload_n 0, 1) := by decide +kernel
theorem dX7_copy_18 : decode cX7_copy 18 = .ok (.getfield 35, 3) := by decide +kernel
theorem dX7_copy_21 : decode cX7_copy 21 = .ok (.iload_n 1, 1) := by decide +kernel
theorem dX7_copy_22 : decode cX7_copy 22 = .ok (.baload, 1) := by decide +kernel
theorem dX7_copy_23 : decode cX7_copy 23 = .ok (.ifCond .eq 12, 3) := by decide +kernel
theorem dX7_copy_26 : decode cX7_copy 26 = .ok (.aload_n 0, 1) := by decide +kernel
theorem dX7_copy_27 : decode cX7_copy 27 = .ok (.getfield 35, 3) := by decide +kernel
theorem dX7_copy_30 : decode cX7_copy 30 = .ok (.iload_n 3, 1) := by decide +kernel
theorem dX7_copy_31 : decode cX7_copy 31 = .ok (.baload, 1) := by decide +kernel
theorem dX7_copy_32 : decode cX7_copy 32 = .ok (.ifCond .ne 9, 3) := by decide +kernel
theorem dX7_copy_35 : decode cX7_copy 35 = .ok (.aload_n 0, 1) := by decide +kernel
theorem dX7_copy_36 : decode cX7_copy 36 = .ok (.iconst 1, 1) := by decide +kernel
theorem dX7_copy_37 : decode cX7_copy 37 = .ok (.invokevirtual 87, 3) := by decide +kernel
theorem dX7_copy_40 : decode cX7_copy 40 = .ok (.ireturn, 1) := by decide +kernel
theorem dX7_copy_41 : decode cX7_copy 41 = .ok (.aload_n 0, 1) := by decide +kernel
theorem dX7_copy_42 : decode cX7_copy 42 = .ok (.getfield 39, 3) := by decide +kernel
theorem dX7_copy_45 : decode cX7_copy 45 = .ok (.iload_n 1, 1) := by decide +kernel
theorem dX7_copy_46 : decode cX7_copy 46 = .ok (.iaload, 1) := by decide +kernel
theorem dX7_copy_47 : decode cX7_copy 47 = .ok (.aload_n 0, 1) := by decide +kernel
theorem dX7_copy_48 : decode cX7_copy 48 = .ok (.getfield 39, 3) := by decide +kernel
theorem dX7_copy_51 : decode cX7_copy 51 = .ok (.iload_n 3, 1) := by decide +kernel
theorem dX7_copy_52 : decode cX7_copy 52 = .ok (.iaload, 1) := by decide +kernel
theorem dX7_copy_53 : decode cX7_copy 53 = .ok (.if_icmp .eq 9, 3) := by decide +kernel
theorem dX7_copy_56 : decode cX7_copy 56 = .ok (.aload_n 0, 1) := by decide +kernel
theorem dX7_copy_57 : decode cX7_copy 57 = .ok (.iconst 4, 1) := by decide +kernel
theorem dX7_copy_58 : decode cX7_copy 58 = .ok (.invokevirtual 87, 3) := by decide +kernel
theorem dX7_copy_61 : decode cX7_copy 61 = .ok (.ireturn, 1) := by decide +kernel
theorem dX7_copy_62 : decode cX7_copy 62 = .ok (.iload_n 2, 1) := by decide +kernel
theorem dX7_copy_63 : decode cX7_copy 63 = .ok (.ifCond .lt 48, 3) := by decide +kernel
theorem dX7_copy_66 : decode cX7_copy 66 = .ok (.iload 4, 2) := by decide +kernel
theorem dX7_copy_68 : decode cX7_copy 68 = .ok (.ifCond .lt 43, 3) := by decide +kernel
theorem dX7_copy_71 : decode cX7_copy 71 = .ok (.iload 5, 2) := by decide +kernel
theorem dX7_copy_73 : decode cX7_copy 73 = .ok (.ifCond .lt 38, 3) := by decide +kernel
theorem dX7_copy_76 : decode cX7_copy 76 = .ok (.iload_n 2, 1) := by decide +kernel
theorem dX7_copy_77 : decode cX7_copy 77 = .ok (.i2l, 1) := by decide +kernel
theorem dX7_copy_78 : decode cX7_copy 78 = .ok (.iload 5, 2) := by decide +kernel
theorem dX7_copy_80 : decode cX7_copy 80 = .ok (.i2l, 1) := by decide +kernel
theorem dX7_copy_81 : decode cX7_copy 81 = .ok (.ladd, 1) := by decide +kernel
theorem dX7_copy_82 : decode cX7_copy 82 = .ok (.aload_n 0, 1) := by decide +kernel
theorem dX7_copy_83 : decode cX7_copy 83 = .ok (.getfield 42, 3) := by decide +kernel
theorem dX7_copy_86 : decode cX7_copy 86 = .ok (.iload_n 1, 1) := by decide +kernel
theorem dX7_copy_87 : decode cX7_copy 87 = .ok (.iaload, 1) := by decide +kernel
theorem dX7_copy_88 : decode cX7_copy 88 = .ok (.i2l, 1) := by decide +kernel
theorem dX7_copy_89 : decode cX7_copy 89 = .ok (.lcmp, 1) := by decide +kernel
theorem dX7_copy_90 : decode cX7_copy 90 = .ok (.ifCond .gt 21, 3) := by decide +kernel
theorem dX7_copy_93 : decode cX7_copy 93 = .ok (.iload 4, 2) := by decide +kernel
theorem dX7_copy_95 : decode cX7_copy 95 = .ok (.i2l, 1) := by decide +kernel
theorem dX7_copy_96 : decode cX7_copy 96 = .ok (.iload 5, 2) := by decide +kernel
theorem dX7_copy_98 : decode cX7_copy 98 = .ok (.i2l, 1) := by decide +kernel
theorem dX7_copy_99 : decode cX7_copy 99 = .ok (.ladd, 1) := by decide +kernel
theorem dX7_copy_100 : decode cX7_copy 100 = .ok (.aload_n 0, 1) := by decide +kernel
theorem dX7_copy_101 : decode cX7_copy 101 = .ok (.getfield 42, 3) := by decide +kernel
theorem dX7_copy_104 : decode cX7_copy 104 = .ok (.iload_n 3, 1) := by decide +kernel
theorem dX7_copy_105 : decode cX7_copy 105 = .ok (.iaload, 1) := by decide +kernel
theorem dX7_copy_106 : decode cX7_copy 106 = .ok (.i2l, 1) := by decide +kernel
theorem dX7_copy_107 : decode cX7_copy 107 = .ok (.lcmp, 1) := by decide +kernel
theorem dX7_copy_108 : decode cX7_copy 108 = .ok (.ifCond .le 9, 3) := by decide +kernel
theorem dX7_copy_111 : decode cX7_copy 111 = .ok (.aload_n 0, 1) := by decide +kernel
theorem dX7_copy_112 : decode cX7_copy 112 = .ok (.iconst 2, 1) := by decide +kernel
theorem dX7_copy_113 : decode cX7_copy 113 = .ok (.invokevirtual 87, 3) := by decide +kernel
theorem dX7_copy_116 : decode cX7_copy 116 = .ok (.ireturn, 1) := by decide +kernel
theorem dX7_copy_117 : decode cX7_copy 117 = .ok (.iconst 0, 1) := by decide +kernel
theorem dX7_copy_118 : decode cX7_copy 118 = .ok (.istore 6, 2) := by decide +kernel
theorem dX7_copy_120 : decode cX7_copy 120 = .ok (.iload 6, 2) := by decide +kernel
theorem dX7_copy_122 : decode cX7_copy 122 = .ok (.iload 5, 2) := by decide +kernel
theorem dX7_copy_124 : decode cX7_copy 124 = .ok (.if_icmp .ge 31, 3) := by decide +kernel
theorem dX7_copy_127 : decode cX7_copy 127 = .ok (.aload_n 0, 1) := by decide +kernel
theorem dX7_copy_128 : decode cX7_copy 128 = .ok (.getfield 48, 3) := by decide +kernel
theorem dX7_copy_131 : decode cX7_copy 131 = .ok (.iload 6, 2) := by decide +kernel
theorem dX7_copy_133 : decode cX7_copy 133 = .ok (.aload_n 0, 1) := by decide +kernel
theorem dX7_copy_134 : decode cX7_copy 134 = .ok (.getfield 45, 3) := by decide +kernel
theorem dX7_copy_137 : decode cX7_copy 137 = .ok (.sipush 300, 3) := by decide +kernel
theorem dX7_copy_140 : decode cX7_copy 140 = .ok (.iload_n 1, 1) := by decide +kernel
theorem dX7_copy_141 : decode cX7_copy 141 = .ok (.imul, 1) := by decide +kernel
theorem dX7_copy_142 : decode cX7_copy 142 = .ok (.iload_n 2, 1) := by decide +kernel
theorem dX7_copy_143 : decode cX7_copy 143 = .ok (.iadd, 1) := by decide +kernel
theorem dX7_copy_144 : decode cX7_copy 144 = .ok (.iload 6, 2) := by decide +kernel
theorem dX7_copy_146 : decode cX7_copy 146 = .ok (.iadd, 1) := by decide +kernel
theorem dX7_copy_147 : decode cX7_copy 147 = .ok (.iaload, 1) := by decide +kernel
theorem dX7_copy_148 : decode cX7_copy 148 = .ok (.iastore, 1) := by decide +kernel
theorem dX7_copy_149 : decode cX7_copy 149 = .ok (.iinc 6 1, 3) := by decide +kernel
theorem dX7_copy_152 : decode cX7_copy 152 = .ok (.goto (-32), 3) := by decide +kernel
theorem dX7_copy_155 : decode cX7_copy 155 = .ok (.iconst 0, 1) := by decide +kernel
theorem dX7_copy_156 : decode cX7_copy 156 = .ok (.istore 6, 2) := by decide +kernel
theorem dX7_copy_158 : decode cX7_copy 158 = .ok (.iload 6, 2) := by decide +kernel
theorem dX7_copy_160 : decode cX7_copy 160 = .ok (.iload 5, 2) := by decide +kernel
theorem dX7_copy_162 : decode cX7_copy 162 = .ok (.if_icmp .ge 32, 3) := by decide +kernel
theorem dX7_copy_165 : decode cX7_copy 165 = .ok (.aload_n 0, 1) := by decide +kernel
theorem dX7_copy_166 : decode cX7_copy 166 = .ok (.getfield 45, 3) := by decide +kernel
theorem dX7_copy_169 : decode cX7_copy 169 = .ok (.sipush 300, 3) := by decide +kernel
theorem dX7_copy_172 : decode cX7_copy 172 = .ok (.iload_n 3, 1) := by decide +kernel
theorem dX7_copy_173 : decode cX7_copy 173 = .ok (.imul, 1) := by decide +kernel
theorem dX7_copy_174 : decode cX7_copy 174 = .ok (.iload 4, 2) := by decide +kernel
theorem dX7_copy_176 : decode cX7_copy 176 = .ok (.iadd, 1) := by decide +kernel
theorem dX7_copy_177 : decode cX7_copy 177 = .ok (.iload 6, 2) := by decide +kernel
theorem dX7_copy_179 : decode cX7_copy 179 = .ok (.iadd, 1) := by decide +kernel
theorem dX7_copy_180 : decode cX7_copy 180 = .ok (.aload_n 0, 1) := by decide +kernel
theorem dX7_copy_181 : decode cX7_copy 181 = .ok (.getfield 48, 3) := by decide +kernel
theorem dX7_copy_184 : decode cX7_copy 184 = .ok (.iload 6, 2) := by decide +kernel
theorem dX7_copy_186 : decode cX7_copy 186 = .ok (.iaload, 1) := by decide +kernel
theorem dX7_copy_187 : decode cX7_copy 187 = .ok (.iastore, 1) := by decide +kernel
theorem dX7_copy_188 : decode cX7_copy 188 = .ok (.iinc 6 1, 3) := by decide +kernel
theorem dX7_copy_191 : decode cX7_copy 191 = .ok (.goto (-33), 3) := by decide +kernel
theorem dX7_copy_194 : decode cX7_copy 194 = .ok (.iconst 1, 1) := by decide +kernel
theorem dX7_copy_195 : decode cX7_copy 195 = .ok (.ireturn, 1) := by decide +kernel
set_option maxRecDepth 20000 in
theorem ggX7_add_X7_isRow : GoodIn wsX7_add wsX7_isRow := goodIn_r _ [9, 10, 11, 8, 12] (by decide +kernel) (by decide +kernel)
set_option maxRecDepth 20000 in
theorem gX7_add_X7_isRow : GoodIn wsX7_add (va_wsS RX7 55 yX7_isRow wsX7_isRow) := goodIn_app (goodIn_of _ (by decide +kernel)) ggX7_add_X7_isRow
set_option maxRecDepth 20000 in
theorem ggX7_add_X7_isReel : GoodIn wsX7_add wsX7_isReel := goodIn_r _ [15, 10, 11, 8, 12] (by decide +kernel) (by decide +kernel)
set_option maxRecDepth 20000 in
theorem gX7_add_X7_isReel : GoodIn wsX7_add (va_wsS RX7 84 yX7_isReel wsX7_isReel) := goodIn_app (goodIn_of _ (by decide +kernel)) ggX7_add_X7_isReel
set_option maxRecDepth 20000 in
theorem ggX7_add_X7_isShift : GoodIn wsX7_add wsX7_isShift := goodIn_r _ [18, 10, 11, 8, 12] (by decide +kernel) (by decide +kernel)
set_option maxRecDepth 20000 in
theorem gX7_add_X7_isShift : GoodIn wsX7_add (va_wsS RX7 73 yX7_isShift wsX7_isShift) := goodIn_app (goodIn_of _ (by decide +kernel)) ggX7_add_X7_isShift
set_option maxRecDepth 20000 in
theorem ggX7_add_X7_in : GoodIn wsX7_add wsX7_in := goodIn_r _ [12] (by decide +kernel) (by decide +kernel)
set_option maxRecDepth 20000 in
theorem gX7_add_X7_in : GoodIn wsX7_add (va_wsS RX7 51 yX7_in wsX7_in) := goodIn_app (goodIn_of _ (by decide +kernel)) ggX7_add_X7_in
set_option maxRecDepth 20000 in
theorem ggX7_add_X7_meets : GoodIn wsX7_add wsX7_meets := goodIn_r _ [22, 23, 32, 33, 34, 35, 36, 37, 38, 39, 40, 41, 42, 43, 44, 45, 46, 47, 48, 49, 50] (by decide +kernel) (by decide +kernel)
set_option maxRecDepth 20000 in
theorem gX7_add_X7_meets : GoodIn wsX7_add (wsV RX7 87 RX7 yX7_meets wsX7_meets) := goodIn_app (goodIn_of _ (by decide +kernel)) ggX7_add_X7_meets
set_option maxRecDepth 20000 in
theorem ggX7_add_X7_signOf : GoodIn wsX7_add wsX7_signOf := goodIn_r _ [27, 28, 2, 32, 33, 34, 35, 36, 37, 38, 39, 40, 41, 42, 43, 44, 45, 46, 47, 48, 49, 50] (by decide +kernel) (by decide +kernel)
set_option maxRecDepth 20000 in
theorem gX7_add_X7_signOf : GoodIn wsX7_add (wsV RX7 80 RX7 yX7_signOf wsX7_signOf) := goodIn_app (goodIn_of _ (by decide +kernel)) ggX7_add_X7_signOf
set_option maxRecDepth 20000 in
theorem ggX7_add_X7_cut : GoodIn wsX7_add wsX7_cut := goodIn_r _ [31] (by decide +kernel) (by decide +kernel)
set_option maxRecDepth 20000 in
theorem gX7_add_X7_cut : GoodIn wsX7_add (va_wsS RX7 155 yX7_cut wsX7_cut) := goodIn_app (goodIn_of _ (by decide +kernel)) ggX7_add_X7_cut
theorem dX7_add_0 : decode cX7_add 0 = .ok (.iload_n 1, 1) := by decide +kernel
theorem dX7_add_1 : decode cX7_add 1 = .ok (.invokestatic 55, 3) := by decide +kernel
theorem dX7_add_4 : decode cX7_add 4 = .ok (.ifCond .eq 36, 3) := by decide +kernel
theorem dX7_add_7 : decode cX7_add 7 = .ok (.iload_n 2, 1) := by decide +kernel
theorem dX7_add_8 : decode cX7_add 8 = .ok (.invokestatic 84, 3) := by decide +kernel
theorem dX7_add_11 : decode cX7_add 11 = .ok (.ifCond .eq 29, 3) := by decide +kernel
theorem dX7_add_14 : decode cX7_add 14 = .ok (.iload_n 3, 1) := by decide +kernel
theorem dX7_add_15 : decode cX7_add 15 = .ok (.ifCond .lt 25, 3) := by decide +kernel
theorem dX7_add_18 : decode cX7_add 18 = .ok (.iload 4, 2) := by decide +kernel
theorem dX7_add_20 : decode cX7_add 20 = .ok (.invokestatic 73, 3) := by decide +kernel
theorem dX7_add_23 : decode cX7_add 23 = .ok (.ifCond .eq 17, 3) := by decide +kernel
theorem dX7_add_26 : decode cX7_add 26 = .ok (.iload 5, 2) := by decide +kernel
theorem dX7_add_28 : decode cX7_add 28 = .ok (.sipush (-1000), 3) := by decide +kernel
theorem dX7_add_31 : decode cX7_add 31 = .ok (.sipush 1000, 3) := by decide +kernel
theorem dX7_add_34 : decode cX7_add 34 = .ok (.invokestatic 51, 3) := by decide +kernel
theorem dX7_add_37 : decode cX7_add 37 = .ok (.ifCond .ne 6, 3) := by decide +kernel
theorem dX7_add_40 : decode cX7_add 40 = .ok (.bipush (-2), 2) := by decide +kernel
theorem dX7_add_42 : decode cX7_add 42 = .ok (.ireturn, 1) := by decide +kernel
theorem dX7_add_43 : decode cX7_add 43 = .ok (.aload_n 0, 1) := by decide +kernel
theorem dX7_add_44 : decode cX7_add 44 = .ok (.getfield 35, 3) := by decide +kernel
theorem dX7_add_47 : decode cX7_add 47 = .ok (.iload_n 2, 1) := by decide +kernel
theorem dX7_add_48 : decode cX7_add 48 = .ok (.baload, 1) := by decide +kernel
theorem dX7_add_49 : decode cX7_add 49 = .ok (.ifCond .ne 9, 3) := by decide +kernel
theorem dX7_add_52 : decode cX7_add 52 = .ok (.aload_n 0, 1) := by decide +kernel
theorem dX7_add_53 : decode cX7_add 53 = .ok (.iconst 1, 1) := by decide +kernel
theorem dX7_add_54 : decode cX7_add 54 = .ok (.invokevirtual 87, 3) := by decide +kernel
theorem dX7_add_57 : decode cX7_add 57 = .ok (.ireturn, 1) := by decide +kernel
theorem dX7_add_58 : decode cX7_add 58 = .ok (.aload_n 0, 1) := by decide +kernel
theorem dX7_add_59 : decode cX7_add 59 = .ok (.getfield 7, 3) := by decide +kernel
theorem dX7_add_62 : decode cX7_add 62 = .ok (.iload_n 1, 1) := by decide +kernel
theorem dX7_add_63 : decode cX7_add 63 = .ok (.iaload, 1) := by decide +kernel
theorem dX7_add_64 : decode cX7_add 64 = .ok (.ifCond .ne 6, 3) := by decide +kernel
theorem dX7_add_67 : decode cX7_add 67 = .ok (.bipush (-3), 2) := by decide +kernel
theorem dX7_add_69 : decode cX7_add 69 = .ok (.ireturn, 1) := by decide +kernel
theorem dX7_add_70 : decode cX7_add 70 = .ok (.iload_n 3, 1) := by decide +kernel
theorem dX7_add_71 : decode cX7_add 71 = .ok (.aload_n 0, 1) := by decide +kernel
theorem dX7_add_72 : decode cX7_add 72 = .ok (.getfield 42, 3) := by decide +kernel
theorem dX7_add_75 : decode cX7_add 75 = .ok (.iload_n 2, 1) := by decide +kernel
theorem dX7_add_76 : decode cX7_add 76 = .ok (.iaload, 1) := by decide +kernel
theorem dX7_add_77 : decode cX7_add 77 = .ok (.if_icmp .le 9, 3) := by decide +kernel
theorem dX7_add_80 : decode cX7_add 80 = .ok (.aload_n 0, 1) := by decide +kernel
theorem dX7_add_81 : decode cX7_add 81 = .ok (.iconst 2, 1) := by decide +kernel
theorem dX7_add_82 : decode cX7_add 82 = .ok (.invokevirtual 87, 3) := by decide +kernel
theorem dX7_add_85 : decode cX7_add 85 = .ok (.ireturn, 1) := by decide +kernel
theorem dX7_add_86 : decode cX7_add 86 = .ok (.aload_n 0, 1) := by decide +kernel
theorem dX7_add_87 : decode cX7_add 87 = .ok (.getfield 7, 3) := by decide +kernel
theorem dX7_add_90 : decode cX7_add 90 = .ok (.iload_n 1, 1) := by decide +kernel
theorem dX7_add_91 : decode cX7_add 91 = .ok (.iaload, 1) := by decide +kernel
theorem dX7_add_92 : decode cX7_add 92 = .ok (.aload_n 0, 1) := by decide +kernel
theorem dX7_add_93 : decode cX7_add 93 = .ok (.getfield 42, 3) := by decide +kernel
theorem dX7_add_96 : decode cX7_add 96 = .ok (.iload_n 2, 1) := by decide +kernel
theorem dX7_add_97 : decode cX7_add 97 = .ok (.iaload, 1) := by decide +kernel
theorem dX7_add_98 : decode cX7_add 98 = .ok (.iload_n 3, 1) := by decide +kernel
theorem dX7_add_99 : decode cX7_add 99 = .ok (.isub, 1) := by decide +kernel
theorem dX7_add_100 : decode cX7_add 100 = .ok (.if_icmp .ge 12, 3) := by decide +kernel
theorem dX7_add_103 : decode cX7_add 103 = .ok (.aload_n 0, 1) := by decide +kernel
theorem dX7_add_104 : decode cX7_add 104 = .ok (.getfield 7, 3) := by decide +kernel
theorem dX7_add_107 : decode cX7_add 107 = .ok (.iload_n 1, 1) := by decide +kernel
theorem dX7_add_108 : decode cX7_add 108 = .ok (.iaload, 1) := by decide +kernel
theorem dX7_add_109 : decode cX7_add 109 = .ok (.goto 11, 3) := by decide +kernel
theorem dX7_add_112 : decode cX7_add 112 = .ok (.aload_n 0, 1) := by decide +kernel
theorem dX7_add_113 : decode cX7_add 113 = .ok (.getfield 42, 3) := by decide +kernel
theorem dX7_add_116 : decode cX7_add 116 = .ok (.iload_n 2, 1) := by decide +kernel
theorem dX7_add_117 : decode cX7_add 117 = .ok (.iaload, 1) := by decide +kernel
theorem dX7_add_118 : decode cX7_add 118 = .ok (.iload_n 3, 1) := by decide +kernel
theorem dX7_add_119 : decode cX7_add 119 = .ok (.isub, 1) := by decide +kernel
theorem dX7_add_120 : decode cX7_add 120 = .ok (.istore 6, 2) := by decide +kernel
theorem dX7_add_122 : decode cX7_add 122 = .ok (.iconst 0, 1) := by decide +kernel
theorem dX7_add_123 : decode cX7_add 123 = .ok (.istore 7, 2) := by decide +kernel
theorem dX7_add_125 : decode cX7_add 125 = .ok (.iload 7, 2) := by decide +kernel
theorem dX7_add_127 : decode cX7_add 127 = .ok (.iload 6, 2) := by decide +kernel
theorem dX7_add_129 : decode cX7_add 129 = .ok (.if_icmp .ge 58, 3) := by decide +kernel
theorem dX7_add_132 : decode cX7_add 132 = .ok (.sipush 300, 3) := by decide +kernel
theorem dX7_add_135 : decode cX7_add 135 = .ok (.iload_n 2, 1) := by decide +kernel
theorem dX7_add_136 : decode cX7_add 136 = .ok (.imul, 1) := by decide +kernel
theorem dX7_add_137 : decode cX7_add 137 = .ok (.iload_n 3, 1) := by decide +kernel
theorem dX7_add_138 : decode cX7_add 138 = .ok (.iadd, 1) := by decide +kernel
theorem dX7_add_139 : decode cX7_add 139 = .ok (.iload 7, 2) := by decide +kernel
theorem dX7_add_141 : decode cX7_add 141 = .ok (.iadd, 1) := by decide +kernel
theorem dX7_add_142 : decode cX7_add 142 = .ok (.istore 8, 2) := by decide +kernel
theorem dX7_add_144 : decode cX7_add 144 = .ok (.aload_n 0, 1) := by decide +kernel
theorem dX7_add_145 : decode cX7_add 145 = .ok (.getfield 45, 3) := by decide +kernel
theorem dX7_add_148 : decode cX7_add 148 = .ok (.iload 8, 2) := by decide +kernel
theorem dX7_add_150 : decode cX7_add 150 = .ok (.aload_n 0, 1) := by decide +kernel
theorem dX7_add_151 : decode cX7_add 151 = .ok (.getfield 39, 3) := by decide +kernel
theorem dX7_add_154 : decode cX7_add 154 = .ok (.iload_n 2, 1) := by decide +kernel
theorem dX7_add_155 : decode cX7_add 155 = .ok (.iaload, 1) := by decide +kernel
theorem dX7_add_156 : decode cX7_add 156 = .ok (.aload_n 0, 1) := by decide +kernel
theorem dX7_add_157 : decode cX7_add 157 = .ok (.getfield 45, 3) := by decide +kernel
theorem dX7_add_160 : decode cX7_add 160 = .ok (.iload 8, 2) := by decide +kernel
theorem dX7_add_162 : decode cX7_add 162 = .ok (.iaload, 1) := by decide +kernel
theorem dX7_add_163 : decode cX7_add 163 = .ok (.iload 5, 2) := by decide +kernel
theorem dX7_add_165 : decode cX7_add 165 = .ok (.aload_n 0, 1) := by decide +kernel
theorem dX7_add_166 : decode cX7_add 166 = .ok (.iload_n 1, 1) := by decide +kernel
theorem dX7_add_167 : decode cX7_add 167 = .ok (.iload 7, 2) := by decide +kernel
theorem dX7_add_169 : decode cX7_add 169 = .ok (.iload 4, 2) := by decide +kernel
theorem dX7_add_171 : decode cX7_add 171 = .ok (.iadd, 1) := by decide +kernel
theorem dX7_add_172 : decode cX7_add 172 = .ok (.invokevirtual 80, 3) := by decide +kernel
theorem dX7_add_175 : decode cX7_add 175 = .ok (.imul, 1) := by decide +kernel
theorem dX7_add_176 : decode cX7_add 176 = .ok (.iadd, 1) := by decide +kernel
theorem dX7_add_177 : decode cX7_add 177 = .ok (.invokestatic 155, 3) := by decide +kernel
theorem dX7_add_180 : decode cX7_add 180 = .ok (.iastore, 1) := by decide +kernel
theorem dX7_add_181 : decode cX7_add 181 = .ok (.iinc 7 1, 3) := by decide +kernel
theorem dX7_add_184 : decode cX7_add 184 = .ok (.goto (-59), 3) := by decide +kernel
theorem dX7_add_187 : decode cX7_add 187 = .ok (.iload 6, 2) := by decide +kernel
theorem dX7_add_189 : decode cX7_add 189 = .ok (.ireturn, 1) := by decide +kernel
theorem dX7_rowsThere_0 : decode cX7_rowsThere 0 = .ok (.iconst 0, 1) := by decide +kernel
theorem dX7_rowsThere_1 : decode cX7_rowsThere 1 = .ok (.istore_n 1, 1) := by decide +kernel
theorem dX7_rowsThere_2 : decode cX7_rowsThere 2 = .ok (.iconst 0, 1) := by decide +kernel
theorem dX7_rowsThere_3 : decode cX7_rowsThere 3 = .ok (.istore_n 2, 1) := by decide +kernel
theorem dX7_rowsThere_4 : decode cX7_rowsThere 4 = .ok (.iload_n 2, 1) := by decide +kernel
theorem dX7_rowsThere_5 : decode cX7_rowsThere 5 = .ok (.bipush 8, 2) := by decide +kernel
theorem dX7_rowsThere_7 : decode cX7_rowsThere 7 = .ok (.if_icmp .ge 26, 3) := by decide +kernel
theorem dX7_rowsThere_10 : decode cX7_rowsThere 10 = .ok (.iload_n 1, 1) := by decide +kernel
theorem dX7_rowsThere_11 : decode cX7_rowsThere 11 = .ok (.aload_n 0, 1) := by decide +kernel
theorem dX7_rowsThere_12 : decode cX7_rowsThere 12 = .ok (.getfield 7, 3) := by decide +kernel
theorem dX7_rowsThere_15 : decode cX7_rowsThere 15 = .ok (.iload_n 2, 1) := by decide +kernel
theorem dX7_rowsThere_16 : decode cX7_rowsThere 16 = .ok (.iaload, 1) := by decide +kernel
theorem dX7_rowsThere_17 : decode cX7_rowsThere 17 = .ok (.ifCond .le 7, 3) := by decide +kernel
theorem dX7_rowsThere_20 : decode cX7_rowsThere 20 = .ok (.iconst 1, 1) := by decide +kernel
theorem dX7_rowsThere_21 : decode cX7_rowsThere 21 = .ok (.goto 4, 3) := by decide +kernel
theorem dX7_rowsThere_24 : decode cX7_rowsThere 24 = .ok (.iconst 0, 1) := by decide +kernel
theorem dX7_rowsThere_25 : decode cX7_rowsThere 25 = .ok (.iadd, 1) := by decide +kernel
theorem dX7_rowsThere_26 : decode cX7_rowsThere 26 = .ok (.istore_n 1, 1) := by decide +kernel
theorem dX7_rowsThere_27 : decode cX7_rowsThere 27 = .ok (.iinc 2 1, 3) := by decide +kernel
theorem dX7_rowsThere_30 : decode cX7_rowsThere 30 = .ok (.goto (-26), 3) := by decide +kernel
theorem dX7_rowsThere_33 : decode cX7_rowsThere 33 = .ok (.iload_n 1, 1) := by decide +kernel
theorem dX7_rowsThere_34 : decode cX7_rowsThere 34 = .ok (.ireturn, 1) := by decide +kernel
set_option maxRecDepth 20000 in
theorem ggX7_count_X7_rowsThere : GoodIn wsX7_count wsX7_rowsThere := goodIn_r _ [9, 10, 11, 12, 13, 14, 15, 16, 17, 18, 19, 20, 21, 22, 23, 24, 25, 26, 27, 28, 29] (by decide +kernel) (by decide +kernel)
set_option maxRecDepth 20000 in
theorem gX7_count_X7_rowsThere : GoodIn wsX7_count (wsV RX7 158 RX7 yX7_rowsThere wsX7_rowsThere) := goodIn_app (goodIn_of _ (by decide +kernel)) ggX7_count_X7_rowsThere
theorem dX7_count_0 : decode cX7_count 0 = .ok (.iload_n 1, 1) := by decide +kernel
theorem dX7_count_1 : decode cX7_count 1 = .ok (.tableswitch 60 0 4 #[35, 40, 45, 50, 55], 35) := by decide +kernel
theorem dX7_count_36 : decode cX7_count 36 = .ok (.aload_n 0, 1) := by decide +kernel
theorem dX7_count_37 : decode cX7_count 37 = .ok (.invokevirtual 158, 3) := by decide +kernel
theorem dX7_count_40 : decode cX7_count 40 = .ok (.ireturn, 1) := by decide +kernel
theorem dX7_count_41 : decode cX7_count 41 = .ok (.aload_n 0, 1) := by decide +kernel
theorem dX7_count_42 : decode cX7_count 42 = .ok (.getfield 134, 3) := by decide +kernel
theorem dX7_count_45 : decode cX7_count 45 = .ok (.ireturn, 1) := by decide +kernel
theorem dX7_count_46 : decode cX7_count 46 = .ok (.aload_n 0, 1) := by decide +kernel
theorem dX7_count_47 : decode cX7_count 47 = .ok (.getfield 19, 3) := by decide +kernel
theorem dX7_count_50 : decode cX7_count 50 = .ok (.ireturn, 1) := by decide +kernel
theorem dX7_count_51 : decode cX7_count 51 = .ok (.aload_n 0, 1) := by decide +kernel
theorem dX7_count_52 : decode cX7_count 52 = .ok (.getfield 149, 3) := by decide +kernel
theorem dX7_count_55 : decode cX7_count 55 = .ok (.ireturn, 1) := by decide +kernel
theorem dX7_count_56 : decode cX7_count 56 = .ok (.aload_n 0, 1) := by decide +kernel
theorem dX7_count_57 : decode cX7_count 57 = .ok (.getfield 121, 3) := by decide +kernel
theorem dX7_count_60 : decode cX7_count 60 = .ok (.ireturn, 1) := by decide +kernel
theorem dX7_count_61 : decode cX7_count 61 = .ok (.bipush (-2), 2) := by decide +kernel
theorem dX7_count_63 : decode cX7_count 63 = .ok (.ireturn, 1) := by decide +kernel
set_option maxRecDepth 20000 in
theorem ggX7_digest_X7_count : GoodIn wsX7_digest wsX7_count := goodIn_r _ [9, 10, 11, 12, 13, 14, 15, 16, 8, 17, 3, 29, 30, 31, 32, 33, 34, 35, 36, 37, 38, 39, 40, 41, 42, 43, 44, 45, 46, 47] (by decide +kernel) (by decide +kernel)
set_option maxRecDepth 20000 in
theorem gX7_digest_X7_count : GoodIn wsX7_digest (wsV RX7 166 RX7 yX7_count wsX7_count) := goodIn_app (goodIn_of _ (by decide +kernel)) ggX7_digest_X7_count
set_option maxRecDepth 20000 in
theorem ggX7_digest_X7_signOf : GoodIn wsX7_digest wsX7_signOf := goodIn_r _ [21, 22, 3, 29, 30, 31, 32, 33, 34, 35, 36, 37, 38, 39, 40, 41, 42, 43, 44, 45, 46, 47] (by decide +kernel) (by decide +kernel)
set_option maxRecDepth 20000 in
theorem gX7_digest_X7_signOf : GoodIn wsX7_digest (wsV RX7 80 RX7 yX7_signOf wsX7_signOf) := goodIn_app (goodIn_of _ (by decide +kernel)) ggX7_digest_X7_signOf
set_option maxRecDepth 20000 in
theorem ggX7_digest_X7_range : GoodIn wsX7_digest wsX7_range := goodIn_r _ [26, 10, 27, 28, 29, 30, 31, 32, 33, 34, 35, 36, 37, 38, 39, 40, 41, 42, 43, 44, 45, 46, 47] (by decide +kernel) (by decide +kernel)
set_option maxRecDepth 20000 in
theorem gX7_digest_X7_range : GoodIn wsX7_digest (wsV RX7 169 RX7 yX7_range wsX7_range) := goodIn_app (goodIn_of _ (by decide +kernel)) ggX7_digest_X7_range
theorem dX7_digest_0 : decode cX7_digest 0 = .ok (.ldc2_w 162, 3) := by decide +kernel
theorem dX7_digest_3 : decode cX7_digest 3 = .ok (.lstore_n 1, 1) := by decide +kernel
theorem dX7_digest_4 : decode cX7_digest 4 = .ok (.iconst 0, 1) := by decide +kernel
theorem dX7_digest_5 : decode cX7_digest 5 = .ok (.istore_n 3, 1) := by decide +kernel
theorem dX7_digest_6 : decode cX7_digest 6 = .ok (.iload_n 3, 1) := by decide +kernel
theorem dX7_digest_7 : decode cX7_digest 7 = .ok (.iconst 5, 1) := by decide +kernel
theorem dX7_digest_8 : decode cX7_digest 8 = .ok (.if_icmp .ge 31, 3) := by decide +kernel
theorem dX7_digest_11 : decode cX7_digest 11 = .ok (.iload_n 3, 1) := by decide +kernel
theorem dX7_digest_12 : decode cX7_digest 12 = .ok (.iconst 3, 1) := by decide +kernel
theorem dX7_digest_13 : decode cX7_digest 13 = .ok (.if_icmp .ne 7, 3) := by decide +kernel
theorem dX7_digest_16 : decode cX7_digest 16 = .ok (.lload_n 1, 1) := by decide +kernel
theorem dX7_digest_17 : decode cX7_digest 17 = .ok (.goto 15, 3) := by decide +kernel
theorem dX7_digest_20 : decode cX7_digest 20 = .ok (.ldc2_w 164, 3) := by decide +kernel
theorem dX7_digest_23 : decode cX7_digest 23 = .ok (.lload_n 1, 1) := by decide +kernel
theorem dX7_digest_24 : decode cX7_digest 24 = .ok (.lmul, 1) := by decide +kernel
theorem dX7_digest_25 : decode cX7_digest 25 = .ok (.aload_n 0, 1) := by decide +kernel
theorem dX7_digest_26 : decode cX7_digest 26 = .ok (.iload_n 3, 1) := by decide +kernel
theorem dX7_digest_27 : decode cX7_digest 27 = .ok (.invokevirtual 166, 3) := by decide +kernel
theorem dX7_digest_30 : decode cX7_digest 30 = .ok (.i2l, 1) := by decide +kernel
theorem dX7_digest_31 : decode cX7_digest 31 = .ok (.ladd, 1) := by decide +kernel
theorem dX7_digest_32 : decode cX7_digest 32 = .ok (.lstore_n 1, 1) := by decide +kernel
theorem dX7_digest_33 : decode cX7_digest 33 = .ok (.iinc 3 1, 3) := by decide +kernel
theorem dX7_digest_36 : decode cX7_digest 36 = .ok (.goto (-30), 3) := by decide +kernel
theorem dX7_digest_39 : decode cX7_digest 39 = .ok (.iconst 0, 1) := by decide +kernel
theorem dX7_digest_40 : decode cX7_digest 40 = .ok (.istore_n 3, 1) := by decide +kernel
theorem dX7_digest_41 : decode cX7_digest 41 = .ok (.iload_n 3, 1) := by decide +kernel
theorem dX7_digest_42 : decode cX7_digest 42 = .ok (.bipush 8, 2) := by decide +kernel
theorem dX7_digest_44 : decode cX7_digest 44 = .ok (.if_icmp .ge 76, 3) := by decide +kernel
theorem dX7_digest_47 : decode cX7_digest 47 = .ok (.aload_n 0, 1) := by decide +kernel
theorem dX7_digest_48 : decode cX7_digest 48 = .ok (.getfield 7, 3) := by decide +kernel
theorem dX7_digest_51 : decode cX7_digest 51 = .ok (.iload_n 3, 1) := by decide +kernel
theorem dX7_digest_52 : decode cX7_digest 52 = .ok (.iaload, 1) := by decide +kernel
theorem dX7_digest_53 : decode cX7_digest 53 = .ok (.ifCond .le 61, 3) := by decide +kernel
theorem dX7_digest_56 : decode cX7_digest 56 = .ok (.ldc2_w 164, 3) := by decide +kernel
theorem dX7_digest_59 : decode cX7_digest 59 = .ok (.lload_n 1, 1) := by decide +kernel
theorem dX7_digest_60 : decode cX7_digest 60 = .ok (.lmul, 1) := by decide +kernel
theorem dX7_digest_61 : decode cX7_digest 61 = .ok (.iload_n 3, 1) := by decide +kernel
theorem dX7_digest_62 : decode cX7_digest 62 = .ok (.i2l, 1) := by decide +kernel
theorem dX7_digest_63 : decode cX7_digest 63 = .ok (.ladd, 1) := by decide +kernel
theorem dX7_digest_64 : decode cX7_digest 64 = .ok (.lstore_n 1, 1) := by decide +kernel
theorem dX7_digest_65 : decode cX7_digest 65 = .ok (.ldc2_w 164, 3) := by decide +kernel
theorem dX7_digest_68 : decode cX7_digest 68 = .ok (.lload_n 1, 1) := by decide +kernel
theorem dX7_digest_69 : decode cX7_digest 69 = .ok (.lmul, 1) := by decide +kernel
theorem dX7_digest_70 : decode cX7_digest 70 = .ok (.aload_n 0, 1) := by decide +kernel
theorem dX7_digest_71 : decode cX7_digest 71 = .ok (.getfield 7, 3) := by decide +kernel
theorem dX7_digest_74 : decode cX7_digest 74 = .ok (.iload_n 3, 1) := by decide +kernel
theorem dX7_digest_75 : decode cX7_digest 75 = .ok (.iaload, 1) := by decide +kernel
theorem dX7_digest_76 : decode cX7_digest 76 = .ok (.i2l, 1) := by decide +kernel
theorem dX7_digest_77 : decode cX7_digest 77 = .ok (.ladd, 1) := by decide +kernel
theorem dX7_digest_78 : decode cX7_digest 78 = .ok (.lstore_n 1, 1) := by decide +kernel
theorem dX7_digest_79 : decode cX7_digest 79 = .ok (.iconst 0, 1) := by decide +kernel
theorem dX7_digest_80 : decode cX7_digest 80 = .ok (.istore 4, 2) := by decide +kernel
theorem dX7_digest_82 : decode cX7_digest 82 = .ok (.iload 4, 2) := by decide +kernel
theorem dX7_digest_84 : decode cX7_digest 84 = .ok (.aload_n 0, 1) := by decide +kernel
theorem dX7_digest_85 : decode cX7_digest 85 = .ok (.getfield 7, 3) := by decide +kernel
theorem dX7_digest_88 : decode cX7_digest 88 = .ok (.iload_n 3, 1) := by decide +kernel
theorem dX7_digest_89 : decode cX7_digest 89 = .ok (.iaload, 1) := by decide +kernel
theorem dX7_digest_90 : decode cX7_digest 90 = .ok (.if_icmp .ge 24, 3) := by decide +kernel
theorem dX7_digest_93 : decode cX7_digest 93 = .ok (.ldc2_w 164, 3) := by decide +kernel
theorem dX7_digest_96 : decode cX7_digest 96 = .ok (.lload_n 1, 1) := by decide +kernel
theorem dX7_digest_97 : decode cX7_digest 97 = .ok (.lmul, 1) := by decide +kernel
theorem dX7_digest_98 : decode cX7_digest 98 = .ok (.aload_n 0, 1) := by decide +kernel
theorem dX7_digest_99 : decode cX7_digest 99 = .ok (.iload_n 3, 1) := by decide +kernel
theorem dX7_digest_100 : decode cX7_digest 100 = .ok (.iload 4, 2) := by decide +kernel
theorem dX7_digest_102 : decode cX7_digest 102 = .ok (.invokevirtual 80, 3) := by decide +kernel
theorem dX7_digest_105 : decode cX7_digest 105 = .ok (.i2l, 1) := by decide +kernel
theorem dX7_digest_106 : decode cX7_digest 106 = .ok (.ladd, 1) := by decide +kernel
theorem dX7_digest_107 : decode cX7_digest 107 = .ok (.lstore_n 1, 1) := by decide +kernel
theorem dX7_digest_108 : decode cX7_digest 108 = .ok (.iinc 4 1, 3) := by decide +kernel
theorem dX7_digest_111 : decode cX7_digest 111 = .ok (.goto (-29), 3) := by decide +kernel
theorem dX7_digest_114 : decode cX7_digest 114 = .ok (.iinc 3 1, 3) := by decide +kernel
theorem dX7_digest_117 : decode cX7_digest 117 = .ok (.goto (-76), 3) := by decide +kernel
theorem dX7_digest_120 : decode cX7_digest 120 = .ok (.ldc2_w 164, 3) := by decide +kernel
theorem dX7_digest_123 : decode cX7_digest 123 = .ok (.lload_n 1, 1) := by decide +kernel
theorem dX7_digest_124 : decode cX7_digest 124 = .ok (.lmul, 1) := by decide +kernel
theorem dX7_digest_125 : decode cX7_digest 125 = .ok (.aload_n 0, 1) := by decide +kernel
theorem dX7_digest_126 : decode cX7_digest 126 = .ok (.invokevirtual 169, 3) := by decide +kernel
theorem dX7_digest_129 : decode cX7_digest 129 = .ok (.ladd, 1) := by decide +kernel
theorem dX7_digest_130 : decode cX7_digest 130 = .ok (.lstore_n 1, 1) := by decide +kernel
theorem dX7_digest_131 : decode cX7_digest 131 = .ok (.ldc2_w 164, 3) := by decide +kernel
theorem dX7_digest_134 : decode cX7_digest 134 = .ok (.lload_n 1, 1) := by decide +kernel
theorem dX7_digest_135 : decode cX7_digest 135 = .ok (.lmul, 1) := by decide +kernel
theorem dX7_digest_136 : decode cX7_digest 136 = .ok (.aload_n 0, 1) := by decide +kernel
theorem dX7_digest_137 : decode cX7_digest 137 = .ok (.getfield 127, 3) := by decide +kernel
theorem dX7_digest_140 : decode cX7_digest 140 = .ok (.ladd, 1) := by decide +kernel
theorem dX7_digest_141 : decode cX7_digest 141 = .ok (.lreturn, 1) := by decide +kernel
theorem dJ6_bitCount_0f7a4_0 : decode cJ6_bitCount_0f7a4 0 = .ok (.iload_n 0, 1) := by decide +kernel
theorem dJ6_bitCount_0f7a4_1 : decode cJ6_bitCount_0f7a4 1 = .ok (.iload_n 0, 1) := by decide +kernel
theorem dJ6_bitCount_0f7a4_2 : decode cJ6_bitCount_0f7a4 2 = .ok (.iconst 1, 1) := by decide +kernel
theorem dJ6_bitCount_0f7a4_3 : decode cJ6_bitCount_0f7a4 3 = .ok (.iushr, 1) := by decide +kernel
theorem dJ6_bitCount_0f7a4_4 : decode cJ6_bitCount_0f7a4 4 = .ok (.ldc_w 265, 3) := by decide +kernel
theorem dJ6_bitCount_0f7a4_7 : decode cJ6_bitCount_0f7a4 7 = .ok (.iand, 1) := by decide +kernel
theorem dJ6_bitCount_0f7a4_8 : decode cJ6_bitCount_0f7a4 8 = .ok (.isub, 1) := by decide +kernel
theorem dJ6_bitCount_0f7a4_9 : decode cJ6_bitCount_0f7a4 9 = .ok (.istore_n 0, 1) := by decide +kernel
theorem dJ6_bitCount_0f7a4_10 : decode cJ6_bitCount_0f7a4 10 = .ok (.iload_n 0, 1) := by decide +kernel
theorem dJ6_bitCount_0f7a4_11 : decode cJ6_bitCount_0f7a4 11 = .ok (.ldc_w 266, 3) := by decide +kernel
theorem dJ6_bitCount_0f7a4_14 : decode cJ6_bitCount_0f7a4 14 = .ok (.iand, 1) := by decide +kernel
theorem dJ6_bitCount_0f7a4_15 : decode cJ6_bitCount_0f7a4 15 = .ok (.iload_n 0, 1) := by decide +kernel
theorem dJ6_bitCount_0f7a4_16 : decode cJ6_bitCount_0f7a4 16 = .ok (.iconst 2, 1) := by decide +kernel
theorem dJ6_bitCount_0f7a4_17 : decode cJ6_bitCount_0f7a4 17 = .ok (.iushr, 1) := by decide +kernel
theorem dJ6_bitCount_0f7a4_18 : decode cJ6_bitCount_0f7a4 18 = .ok (.ldc_w 266, 3) := by decide +kernel
theorem dJ6_bitCount_0f7a4_21 : decode cJ6_bitCount_0f7a4 21 = .ok (.iand, 1) := by decide +kernel
theorem dJ6_bitCount_0f7a4_22 : decode cJ6_bitCount_0f7a4 22 = .ok (.iadd, 1) := by decide +kernel
theorem dJ6_bitCount_0f7a4_23 : decode cJ6_bitCount_0f7a4 23 = .ok (.istore_n 0, 1) := by decide +kernel
theorem dJ6_bitCount_0f7a4_24 : decode cJ6_bitCount_0f7a4 24 = .ok (.iload_n 0, 1) := by decide +kernel
theorem dJ6_bitCount_0f7a4_25 : decode cJ6_bitCount_0f7a4 25 = .ok (.iload_n 0, 1) := by decide +kernel
theorem dJ6_bitCount_0f7a4_26 : decode cJ6_bitCount_0f7a4 26 = .ok (.iconst 4, 1) := by decide +kernel
theorem dJ6_bitCount_0f7a4_27 : decode cJ6_bitCount_0f7a4 27 = .ok (.iushr, 1) := by decide +kernel
theorem dJ6_bitCount_0f7a4_28 : decode cJ6_bitCount_0f7a4 28 = .ok (.iadd, 1) := by decide +kernel
theorem dJ6_bitCount_0f7a4_29 : decode cJ6_bitCount_0f7a4 29 = .ok (.ldc_w 267, 3) := by decide +kernel
theorem dJ6_bitCount_0f7a4_32 : decode cJ6_bitCount_0f7a4 32 = .ok (.iand, 1) := by decide +kernel
theorem dJ6_bitCount_0f7a4_33 : decode cJ6_bitCount_0f7a4 33 = .ok (.istore_n 0, 1) := by decide +kernel
theorem dJ6_bitCount_0f7a4_34 : decode cJ6_bitCount_0f7a4 34 = .ok (.iload_n 0, 1) := by decide +kernel
theorem dJ6_bitCount_0f7a4_35 : decode cJ6_bitCount_0f7a4 35 = .ok (.iload_n 0, 1) := by decide +kernel
theorem dJ6_bitCount_0f7a4_36 : decode cJ6_bitCount_0f7a4 36 = .ok (.bipush 8, 2) := by decide +kernel
theorem dJ6_bitCount_0f7a4_38 : decode cJ6_bitCount_0f7a4 38 = .ok (.iushr, 1) := by decide +kernel
theorem dJ6_bitCount_0f7a4_39 : decode cJ6_bitCount_0f7a4 39 = .ok (.iadd, 1) := by decide +kernel
theorem dJ6_bitCount_0f7a4_40 : decode cJ6_bitCount_0f7a4 40 = .ok (.istore_n 0, 1) := by decide +kernel
theorem dJ6_bitCount_0f7a4_41 : decode cJ6_bitCount_0f7a4 41 = .ok (.iload_n 0, 1) := by decide +kernel
theorem dJ6_bitCount_0f7a4_42 : decode cJ6_bitCount_0f7a4 42 = .ok (.iload_n 0, 1) := by decide +kernel
theorem dJ6_bitCount_0f7a4_43 : decode cJ6_bitCount_0f7a4 43 = .ok (.bipush 16, 2) := by decide +kernel
theorem dJ6_bitCount_0f7a4_45 : decode cJ6_bitCount_0f7a4 45 = .ok (.iushr, 1) := by decide +kernel
theorem dJ6_bitCount_0f7a4_46 : decode cJ6_bitCount_0f7a4 46 = .ok (.iadd, 1) := by decide +kernel
theorem dJ6_bitCount_0f7a4_47 : decode cJ6_bitCount_0f7a4 47 = .ok (.istore_n 0, 1) := by decide +kernel
theorem dJ6_bitCount_0f7a4_48 : decode cJ6_bitCount_0f7a4 48 = .ok (.iload_n 0, 1) := by decide +kernel
theorem dJ6_bitCount_0f7a4_49 : decode cJ6_bitCount_0f7a4 49 = .ok (.bipush 63, 2) := by decide +kernel
theorem dJ6_bitCount_0f7a4_51 : decode cJ6_bitCount_0f7a4 51 = .ok (.iand, 1) := by decide +kernel
theorem dJ6_bitCount_0f7a4_52 : decode cJ6_bitCount_0f7a4 52 = .ok (.ireturn, 1) := by decide +kernel
theorem dJ9_floorDiv_7cf53_0 : decode cJ9_floorDiv_7cf53 0 = .ok (.iload_n 0, 1) := by decide +kernel
theorem dJ9_floorDiv_7cf53_1 : decode cJ9_floorDiv_7cf53 1 = .ok (.iload_n 1, 1) := by decide +kernel
theorem dJ9_floorDiv_7cf53_2 : decode cJ9_floorDiv_7cf53 2 = .ok (.idiv, 1) := by decide +kernel
theorem dJ9_floorDiv_7cf53_3 : decode cJ9_floorDiv_7cf53 3 = .ok (.istore_n 2, 1) := by decide +kernel
theorem dJ9_floorDiv_7cf53_4 : decode cJ9_floorDiv_7cf53 4 = .ok (.iload_n 0, 1) := by decide +kernel
theorem dJ9_floorDiv_7cf53_5 : decode cJ9_floorDiv_7cf53 5 = .ok (.iload_n 1, 1) := by decide +kernel
theorem dJ9_floorDiv_7cf53_6 : decode cJ9_floorDiv_7cf53 6 = .ok (.ixor, 1) := by decide +kernel
theorem dJ9_floorDiv_7cf53_7 : decode cJ9_floorDiv_7cf53 7 = .ok (.ifCond .ge 14, 3) := by decide +kernel
theorem dJ9_floorDiv_7cf53_10 : decode cJ9_floorDiv_7cf53 10 = .ok (.iload_n 2, 1) := by decide +kernel
theorem dJ9_floorDiv_7cf53_11 : decode cJ9_floorDiv_7cf53 11 = .ok (.iload_n 1, 1) := by decide +kernel
theorem dJ9_floorDiv_7cf53_12 : decode cJ9_floorDiv_7cf53 12 = .ok (.imul, 1) := by decide +kernel
theorem dJ9_floorDiv_7cf53_13 : decode cJ9_floorDiv_7cf53 13 = .ok (.iload_n 0, 1) := by decide +kernel
theorem dJ9_floorDiv_7cf53_14 : decode cJ9_floorDiv_7cf53 14 = .ok (.if_icmp .eq 7, 3) := by decide +kernel
theorem dJ9_floorDiv_7cf53_17 : decode cJ9_floorDiv_7cf53 17 = .ok (.iload_n 2, 1) := by decide +kernel
theorem dJ9_floorDiv_7cf53_18 : decode cJ9_floorDiv_7cf53 18 = .ok (.iconst 1, 1) := by decide +kernel
theorem dJ9_floorDiv_7cf53_19 : decode cJ9_floorDiv_7cf53 19 = .ok (.isub, 1) := by decide +kernel
theorem dJ9_floorDiv_7cf53_20 : decode cJ9_floorDiv_7cf53 20 = .ok (.ireturn, 1) := by decide +kernel
theorem dJ9_floorDiv_7cf53_21 : decode cJ9_floorDiv_7cf53 21 = .ok (.iload_n 2, 1) := by decide +kernel
theorem dJ9_floorDiv_7cf53_22 : decode cJ9_floorDiv_7cf53 22 = .ok (.ireturn, 1) := by decide +kernel
theorem dJ9_floorMod_7cf53_0 : decode cJ9_floorMod_7cf53 0 = .ok (.iload_n 0, 1) := by decide +kernel
theorem dJ9_floorMod_7cf53_1 : decode cJ9_floorMod_7cf53 1 = .ok (.iload_n 1, 1) := by decide +kernel
theorem dJ9_floorMod_7cf53_2 : decode cJ9_floorMod_7cf53 2 = .ok (.irem, 1) := by decide +kernel
theorem dJ9_floorMod_7cf53_3 : decode cJ9_floorMod_7cf53 3 = .ok (.istore_n 2, 1) := by decide +kernel
theorem dJ9_floorMod_7cf53_4 : decode cJ9_floorMod_7cf53 4 = .ok (.iload_n 0, 1) := by decide +kernel
theorem dJ9_floorMod_7cf53_5 : decode cJ9_floorMod_7cf53 5 = .ok (.iload_n 1, 1) := by decide +kernel
theorem dJ9_floorMod_7cf53_6 : decode cJ9_floorMod_7cf53 6 = .ok (.ixor, 1) := by decide +kernel
theorem dJ9_floorMod_7cf53_7 : decode cJ9_floorMod_7cf53 7 = .ok (.ifCond .ge 11, 3) := by decide +kernel
theorem dJ9_floorMod_7cf53_10 : decode cJ9_floorMod_7cf53 10 = .ok (.iload_n 2, 1) := by decide +kernel
theorem dJ9_floorMod_7cf53_11 : decode cJ9_floorMod_7cf53 11 = .ok (.ifCond .eq 7, 3) := by decide +kernel
theorem dJ9_floorMod_7cf53_14 : decode cJ9_floorMod_7cf53 14 = .ok (.iload_n 2, 1) := by decide +kernel
theorem dJ9_floorMod_7cf53_15 : decode cJ9_floorMod_7cf53 15 = .ok (.iload_n 1, 1) := by decide +kernel
theorem dJ9_floorMod_7cf53_16 : decode cJ9_floorMod_7cf53 16 = .ok (.iadd, 1) := by decide +kernel
theorem dJ9_floorMod_7cf53_17 : decode cJ9_floorMod_7cf53 17 = .ok (.ireturn, 1) := by decide +kernel
theorem dJ9_floorMod_7cf53_18 : decode cJ9_floorMod_7cf53 18 = .ok (.iload_n 2, 1) := by decide +kernel
theorem dJ9_floorMod_7cf53_19 : decode cJ9_floorMod_7cf53 19 = .ok (.ireturn, 1) := by decide +kernel
theorem dJ9_abs_0f7a4_0 : decode cJ9_abs_0f7a4 0 = .ok (.iload_n 0, 1) := by decide +kernel
theorem dJ9_abs_0f7a4_1 : decode cJ9_abs_0f7a4 1 = .ok (.ifCond .ge 8, 3) := by decide +kernel
theorem dJ9_abs_0f7a4_4 : decode cJ9_abs_0f7a4 4 = .ok (.iload_n 0, 1) := by decide +kernel
theorem dJ9_abs_0f7a4_5 : decode cJ9_abs_0f7a4 5 = .ok (.ineg, 1) := by decide +kernel
theorem dJ9_abs_0f7a4_6 : decode cJ9_abs_0f7a4 6 = .ok (.goto 4, 3) := by decide +kernel
theorem dJ9_abs_0f7a4_9 : decode cJ9_abs_0f7a4 9 = .ok (.iload_n 0, 1) := by decide +kernel
theorem dJ9_abs_0f7a4_10 : decode cJ9_abs_0f7a4 10 = .ok (.ireturn, 1) := by decide +kernel
theorem dJ9_max_7cf53_0 : decode cJ9_max_7cf53 0 = .ok (.iload_n 0, 1) := by decide +kernel
theorem dJ9_max_7cf53_1 : decode cJ9_max_7cf53 1 = .ok (.iload_n 1, 1) := by decide +kernel
theorem dJ9_max_7cf53_2 : decode cJ9_max_7cf53 2 = .ok (.if_icmp .lt 7, 3) := by decide +kernel
theorem dJ9_max_7cf53_5 : decode cJ9_max_7cf53 5 = .ok (.iload_n 0, 1) := by decide +kernel
theorem dJ9_max_7cf53_6 : decode cJ9_max_7cf53 6 = .ok (.goto 4, 3) := by decide +kernel
theorem dJ9_max_7cf53_9 : decode cJ9_max_7cf53 9 = .ok (.iload_n 1, 1) := by decide +kernel
theorem dJ9_max_7cf53_10 : decode cJ9_max_7cf53 10 = .ok (.ireturn, 1) := by decide +kernel
theorem dJ9_min_7cf53_0 : decode cJ9_min_7cf53 0 = .ok (.iload_n 0, 1) := by decide +kernel
theorem dJ9_min_7cf53_1 : decode cJ9_min_7cf53 1 = .ok (.iload_n 1, 1) := by decide +kernel
theorem dJ9_min_7cf53_2 : decode cJ9_min_7cf53 2 = .ok (.if_icmp .gt 7, 3) := by decide +kernel
theorem dJ9_min_7cf53_5 : decode cJ9_min_7cf53 5 = .ok (.iload_n 0, 1) := by decide +kernel
theorem dJ9_min_7cf53_6 : decode cJ9_min_7cf53 6 = .ok (.goto 4, 3) := by decide +kernel
theorem dJ9_min_7cf53_9 : decode cJ9_min_7cf53 9 = .ok (.iload_n 1, 1) := by decide +kernel
theorem dJ9_min_7cf53_10 : decode cJ9_min_7cf53 10 = .ok (.ireturn, 1) := by decide +kernel
end
section
/-! memory of a world: ints and longs by cell and slot -/
abbrev ch_Mem : Type := (Nat → Nat → Int32) × (Nat → Nat → Int64)
def ch_wI (M : ch_Mem) (k j : Nat) (v : Int32) : ch_Mem := (fun a => if a = k then upd (M.1 k) j v else M.1 a, M.2)
def ch_wL (M : ch_Mem) (k j : Nat) (v : Int64) : ch_Mem := (M.1, fun a => if a = k then vp_updL (M.2 k) j v else M.2 a)
def ch_wA (M : ch_Mem) (k : Nat) (f : Nat → Int32) : ch_Mem := (fun a => if a = k then f else M.1 a, M.2)
def ch_nm {α β : Type} (e : α) (f : α → Option β) : Option β := f e
def ch_bd {α β : Type} (x : Option (α × ch_Mem)) (f : α → ch_Mem → Option β) : Option β := x.bind (fun o => f o.1 o.2)
def ch_gd {β : Type} (i : Int32) (n : Nat) (x : Option β) : Option β := if i < 0 ∨ n ≤ i.toNatClampNeg then none else x
def ch_g0 {β : Type} (y : Int32) (x : Option β) : Option β := if y = 0 then none else x
def ch_g0L {β : Type} (y : Int64) (x : Option β) : Option β := if y = 0 then none else x
def ch_cp {β : Type} (sp dp n : Int32) (n0 n1 : Nat) (x : Option β) : Option β := if sp < 0 ∨ dp < 0 ∨ n < 0 ∨ n0 < sp.toNatClampNeg + n.toNatClampNeg ∨ n1 < dp.toNatClampNeg + n.toNatClampNeg then none else x
def ch_fix {τ : Type} (b : τ) (Φ : τ → τ) : Nat → τ
  | 0 => b
  | n + 1 => Φ (ch_fix b Φ n)
def ch_fu : Nat := 100000
theorem ch_nm_k {α β : Type} {e : α} {f : α → Option β} {o : β} (h : ch_nm e f = some o) : f e = some o := h
theorem ch_bd_k {α β : Type} {x : Option (α × ch_Mem)} {f : α → ch_Mem → Option β} {o : β} {G : Prop} (h : ch_bd x f = some o) (k : ∀ (r : α) (M : ch_Mem), x = some (r, M) → f r M = some o → G) : G := by
  cases x with
  | none => cases h
  | some a => exact k a.1 a.2 rfl h
theorem ch_gd_k {β : Type} {i : Int32} {n : Nat} {x : Option β} {o : β} {G : Prop} (h : ch_gd i n x = some o) (k : vp_in i n → x = some o → G) : G := by
  unfold ch_gd at h
  by_cases c : i < 0 ∨ n ≤ i.toNatClampNeg
  · rw [if_pos c] at h; cases h
  · rw [if_neg c] at h; exact k c h
theorem ch_g0_k {β : Type} {y : Int32} {x : Option β} {o : β} {G : Prop} (h : ch_g0 y x = some o) (k : ¬ y = 0 → x = some o → G) : G := by
  unfold ch_g0 at h
  by_cases c : y = 0
  · rw [if_pos c] at h; cases h
  · rw [if_neg c] at h; exact k c h
theorem ch_g0L_k {β : Type} {y : Int64} {x : Option β} {o : β} {G : Prop} (h : ch_g0L y x = some o) (k : ¬ y = 0 → x = some o → G) : G := by
  unfold ch_g0L at h
  by_cases c : y = 0
  · rw [if_pos c] at h; cases h
  · rw [if_neg c] at h; exact k c h
theorem ch_cp_k {β : Type} {sp dp n : Int32} {n0 n1 : Nat} {x : Option β} {o : β} {G : Prop} (h : ch_cp sp dp n n0 n1 x = some o) (k : ¬ sp < 0 → ¬ dp < 0 → ¬ n < 0 → sp.toNatClampNeg + n.toNatClampNeg ≤ n0 → dp.toNatClampNeg + n.toNatClampNeg ≤ n1 → x = some o → G) : G := by
  unfold ch_cp at h
  by_cases c : sp < 0 ∨ dp < 0 ∨ n < 0 ∨ n0 < sp.toNatClampNeg + n.toNatClampNeg ∨ n1 < dp.toNatClampNeg + n.toNatClampNeg
  · rw [if_pos c] at h; cases h
  · rw [if_neg c] at h
    simp only [not_or, Nat.not_lt] at c
    exact k c.1 c.2.1 c.2.2.1 c.2.2.2.1 c.2.2.2.2 h
theorem ch_if_k {β : Type} {q : Prop} [Decidable q] {a b : Option β} {o : β} {G : Prop} (h : (if q then a else b) = some o) (kt : q → a = some o → G) (kf : ¬ q → b = some o → G) : G := by
  by_cases c : q
  · rw [if_pos c] at h; exact kt c h
  · rw [if_neg c] at h; exact kf c h
theorem ch_in_lt {i : Int32} {n : Nat} (h : vp_in i n) : i.toNatClampNeg < n := Nat.not_le.mp fun q => h (Or.inr q)
/-! worlds of N cells: cell k at the address sh k -/
def ch_W (N : Nat) (sh : Nat → Nat) (cf : Nat → va_E) : va_W := (List.range N).map (fun k => (sh k, cf k))
theorem ch_W_get {N : Nat} {sh : Nat → Nat} {cf : Nat → va_E} {k : Nat} (h : k < N) : (ch_W N sh cf)[k]? = some (sh k, cf k) := by simp [ch_W, h]
theorem ch_W_of {N : Nat} {sh : Nat → Nat} {cf : Nat → va_E} {k : Nat} {q : Nat × va_E} (h : (ch_W N sh cf)[k]? = some q) : k < N ∧ q = (sh k, cf k) := by
  have hl := (List.getElem?_eq_some_iff.mp h).1
  have hk : k < N := by simpa [ch_W] using hl
  rw [ch_W_get hk] at h
  exact ⟨hk, (Option.some.inj h).symm⟩
theorem ch_W_set {N : Nat} {sh : Nat → Nat} {cf : Nat → va_E} {k : Nat} {e : va_E} : (ch_W N sh cf).set k (sh k, e) = ch_W N sh (va_up cf k e) := by
  refine List.ext_getElem? (fun i => ?_)
  by_cases hi : i < N
  · rw [ch_W_get hi, List.getElem?_set]
    by_cases hk : k = i
    · subst hk
      simp [ch_W, hi, va_up]
    · rw [if_neg hk, ch_W_get hi]
      simp [va_up, Ne.symm hk]
  · rw [List.getElem?_eq_none (by simp [ch_W]; omega), List.getElem?_eq_none (by simp [ch_W]; omega)]
def ch_cf (F : Nat → (Nat → Int32) → (Nat → Int64) → va_E) (M : ch_Mem) : Nat → va_E := fun k => F k (M.1 k) (M.2 k)
theorem ch_cf_wI {F : Nat → (Nat → Int32) → (Nat → Int64) → va_E} {M : ch_Mem} {k j : Nat} {v : Int32} {e : va_E} (h : F k (upd (M.1 k) j v) (M.2 k) = e) : va_up (ch_cf F M) k e = ch_cf F (ch_wI M k j v) := by
  funext q
  by_cases hq : q = k
  · subst hq; simp [va_up, ch_cf, ch_wI, h]
  · simp [va_up, ch_cf, ch_wI, hq]
theorem ch_cf_wL {F : Nat → (Nat → Int32) → (Nat → Int64) → va_E} {M : ch_Mem} {k j : Nat} {v : Int64} {e : va_E} (h : F k (M.1 k) (vp_updL (M.2 k) j v) = e) : va_up (ch_cf F M) k e = ch_cf F (ch_wL M k j v) := by
  funext q
  by_cases hq : q = k
  · subst hq; simp [va_up, ch_cf, ch_wL, h]
  · simp [va_up, ch_cf, ch_wL, hq]
theorem ch_cf_wA {F : Nat → (Nat → Int32) → (Nat → Int64) → va_E} {M : ch_Mem} {k : Nat} {f : Nat → Int32} {e : va_E} (h : F k f (M.2 k) = e) : va_up (ch_cf F M) k e = ch_cf F (ch_wA M k f) := by
  funext q
  by_cases hq : q = k
  · subst hq; simp [va_up, ch_cf, ch_wA, h]
  · simp [va_up, ch_cf, ch_wA, hq]
theorem ch_D {N : Nat} {sh : Nat → Nat} {c1 c2 : Nat → va_E} {A : Nat → Prop} (h : va_D A (ch_W N sh c1)) : va_D A (ch_W N sh c2) := by
  refine ⟨fun i j x y hi hj hxy => ?_, fun k q hk => ?_⟩
  · obtain ⟨a1, rfl⟩ := ch_W_of hi
    obtain ⟨a2, rfl⟩ := ch_W_of hj
    exact h.1 i j _ _ (ch_W_get a1) (ch_W_get a2) hxy
  · obtain ⟨a1, rfl⟩ := ch_W_of hk
    exact h.2 k (sh k, c1 k) (ch_W_get a1)
abbrev ch_Id : Type := ClassId × ClassId × ClassId × ClassId
def ch_tys (I : ch_Id) : List (ClassId × FieldType) := [(I.1, .int), (I.2.1, .boolean), (I.2.2.1, .object RX3), (I.2.2.2, .object RX2)]
def ch_len (k : Nat) : Nat := if k < 27 then 127 else if k < 31 then 300 else if k < 35 then 127 else if k < 38 then 20 else 5
/-- the class's cells: 0 CodeHunt, 1 rows, 2 reels, 3 window, 4 search, 5 peeling, 6 lengths, 7.. Rows, 15.. their signs, 23.. Reels, 27.. their items, 31 x, 32 y, 33 turnedX, 34 turnedY, 35 rowOf, 36 shiftOf, 37 strengthOf, 38 lengthOf, 39 shiftOf -/
def ch_FC (I : ch_Id) (sh : Nat → Nat) (k : Nat) (f : Nat → Int32) (g : Nat → Int64) : va_E :=
  if k = 0 then .inr (6, [.ref (sh 1), .ref (sh 2), .ref (sh 3), .ref (sh 4), .ref (sh 5), .ref (sh 6), .int (f 6), .int (f 7)])
  else if k = 1 then .inl (I.2.2.1, 8, .inr (.inr (.inr (.inr (fun j => some (sh (7 + j)))))))
  else if k = 2 then .inl (I.2.2.2, 4, .inr (.inr (.inr (.inr (fun j => some (sh (23 + j)))))))
  else if k = 3 then .inr (5, [.ref (sh 31), .ref (sh 32), .ref (sh 33), .ref (sh 34), .int (f 4)])
  else if k = 4 then .inr (4, [.long (g 0), .long (g 1), .int (f 2), .int (f 3)])
  else if k = 5 then .inr (1, [.ref (sh 35), .ref (sh 36), .ref (sh 37), .int (f 3), .long (g 4)])
  else if k = 6 then .inr (0, [.ref (sh 38), .ref (sh 39), .int (f 2)])
  else if k < 15 then .inr (3, [.ref (sh (k + 8)), .int (f 1)])
  else if k < 23 then .inl (I.1, 127, .inl f)
  else if k < 27 then .inr (2, [.ref (sh (k + 4)), .int (f 1), .int (f 2), .int (f 3)])
  else .inl (I.1, ch_len k, .inl f)
theorem ch_FC_row {I : ch_Id} {sh : Nat → Nat} {k : Nat} {f : Nat → Int32} {g : Nat → Int64} (h : 7 ≤ k ∧ k < 15) : ch_FC I sh k f g = .inr (3, [.ref (sh (k + 8)), .int (f 1)]) := by
  unfold ch_FC
  rw [if_neg (by omega), if_neg (by omega), if_neg (by omega), if_neg (by omega), if_neg (by omega), if_neg (by omega), if_neg (by omega), if_pos (by omega)]
theorem ch_FC_reel {I : ch_Id} {sh : Nat → Nat} {k : Nat} {f : Nat → Int32} {g : Nat → Int64} (h : 23 ≤ k ∧ k < 27) : ch_FC I sh k f g = .inr (2, [.ref (sh (k + 4)), .int (f 1), .int (f 2), .int (f 3)]) := by
  unfold ch_FC
  rw [if_neg (by omega), if_neg (by omega), if_neg (by omega), if_neg (by omega), if_neg (by omega), if_neg (by omega), if_neg (by omega), if_neg (by omega), if_neg (by omega), if_pos (by omega)]
def ch_arr (k : Nat) : Prop := (15 ≤ k ∧ k < 23) ∨ (27 ≤ k ∧ k < 40)
theorem ch_FC_arr {I : ch_Id} {sh : Nat → Nat} {k : Nat} (h : ch_arr k) (f : Nat → Int32) {g : Nat → Int64} : ch_FC I sh k f g = .inl (I.1, ch_len k, .inl f) := by
  unfold ch_FC
  unfold ch_arr at h
  rcases h with h | h
  · rw [if_neg (by omega), if_neg (by omega), if_neg (by omega), if_neg (by omega), if_neg (by omega), if_neg (by omega), if_neg (by omega), if_neg (by omega), if_pos (by omega)]
    unfold ch_len
    rw [if_pos (by omega)]
  · rw [if_neg (by omega), if_neg (by omega), if_neg (by omega), if_neg (by omega), if_neg (by omega), if_neg (by omega), if_neg (by omega), if_neg (by omega), if_neg (by omega), if_neg (by omega)]
theorem ch_FC_sgn {I : ch_Id} {sh : Nat → Nat} {k : Nat} (h : 15 ≤ k ∧ k < 23) (f : Nat → Int32) {g : Nat → Int64} : ch_FC I sh k f g = .inl (I.1, 127, .inl f) := by
  rw [ch_FC_arr (Or.inl h)]
  unfold ch_len
  rw [if_pos (by omega)]
theorem ch_FC_itm {I : ch_Id} {sh : Nat → Nat} {k : Nat} (h : 27 ≤ k ∧ k < 31) (f : Nat → Int32) {g : Nat → Int64} : ch_FC I sh k f g = .inl (I.1, 300, .inl f) := by
  rw [ch_FC_arr (Or.inr ⟨h.1, by omega⟩)]
  unfold ch_len
  rw [if_neg (by omega), if_pos (by omega)]
/-- the reference's cells: 0 CodeHuntModel, 1 sizesOf, 2 signs, 3 made, 4 peeled, 5 left, 6 lengthOf, 7 shiftOf, 8 isThere, 9 forms, 10 sizes, 11 items, 12 moved -/
def ch_lenM (k : Nat) : Nat := if k = 1 then 8 else if k = 2 then 1016 else if k = 3 then 127 else if k = 4 then 60 else if k = 5 then 127 else if k < 8 then 5 else if k < 11 then 4 else if k = 11 then 1200 else 300
def ch_FM (I : ch_Id) (sh : Nat → Nat) (k : Nat) (f : Nat → Int32) (g : Nat → Int64) : va_E :=
  if k = 0 then .inr (7, [.ref (sh 1), .ref (sh 2), .ref (sh 3), .int (f 3), .long (g 4), .long (g 5), .int (f 6), .ref (sh 4), .ref (sh 5), .long (g 9), .int (f 10), .ref (sh 6), .ref (sh 7), .ref (sh 8), .ref (sh 9), .ref (sh 10), .ref (sh 11), .ref (sh 12), .int (f 18)])
  else if k = 8 then .inl (I.2.1, 4, .inl f)
  else .inl (I.1, ch_lenM k, .inl f)
/-! what is carried beside a world: the nest mates' links, the table PRIMES -/
def ch_nst : List Cond := [.fieldLinkNest RX6 87 "CodeHunt$Window" "x" "[I" RX6, .fieldLinkNest RX6 285 "CodeHunt$Window" "y" "[I" RX6, .fieldLinkNest RX6 150 "CodeHunt$Window" "turnedX" "[I" RX6, .fieldLinkNest RX6 153 "CodeHunt$Window" "turnedY" "[I" RX6, .fieldLinkNest RX6 281 "CodeHunt$Window" "size" "I" RX6, .fieldLinkNest RX6 165 "CodeHunt$Search" "greatest" "J" RX6, .fieldLinkNest RX6 171 "CodeHunt$Search" "next" "J" RX6, .fieldLinkNest RX6 159 "CodeHunt$Search" "tone" "I" RX6, .fieldLinkNest RX6 162 "CodeHunt$Search" "shift" "I" RX6, .fieldLinkNest RX6 195 "CodeHunt$Peeling" "rowOf" "[I" RX6, .fieldLinkNest RX6 198 "CodeHunt$Peeling" "shiftOf" "[I" RX6, .fieldLinkNest RX6 201 "CodeHunt$Peeling" "strengthOf" "[I" RX6, .fieldLinkNest RX6 181 "CodeHunt$Peeling" "times" "I" RX6, .fieldLinkNest RX6 191 "CodeHunt$Peeling" "noise" "J" RX6, .fieldLinkNest RX6 211 "CodeHunt$Lengths" "size" "I" RX6, .fieldLinkNest RX6 120 "CodeHunt$Row" "signs" "[I" RX6, .fieldLinkNest RX6 70 "CodeHunt$Row" "size" "I" RX6, .fieldLinkNest RX6 113 "CodeHunt$Reel" "items" "[I" RX6, .fieldLinkNest RX6 105 "CodeHunt$Reel" "lost" "Z" RX6, .fieldLinkNest RX6 241 "CodeHunt$Reel" "form" "I" RX6, .fieldLinkNest RX6 112 "CodeHunt$Reel" "size" "I" RX6, .methodLinkNest RX6 23 yX5_init RX6, .methodLinkNest RX6 30 yX4_init RX6, .methodLinkNest RX6 37 yX1_init RX6, .methodLinkNest RX6 44 yX0_init RX6, .methodLinkNest RX6 56 yX3_init RX6, .methodLinkNest RX6 57 yX2_init RX6, .methodLinkNest RX3 25 yX6_stepped RX6, .methodLinkNest RX3 36 yX6_mixed RX6]
theorem ch_nst_on : ∀ w ∈ ch_nst, w.onTables = true := by decide +kernel
theorem ch_nst_warm : ∀ w ∈ ch_nst, ∀ (s U : State), s.WarmedH U.vm → va_Nw w s → va_Nw w U := List.forall_mem_cons.mpr ⟨fun s U hW h => va_Nw.warmF hW h, List.forall_mem_cons.mpr ⟨fun s U hW h => va_Nw.warmF hW h, List.forall_mem_cons.mpr ⟨fun s U hW h => va_Nw.warmF hW h, List.forall_mem_cons.mpr ⟨fun s U hW h => va_Nw.warmF hW h, List.forall_mem_cons.mpr ⟨fun s U hW h => va_Nw.warmF hW h, List.forall_mem_cons.mpr ⟨fun s U hW h => va_Nw.warmF hW h, List.forall_mem_cons.mpr ⟨fun s U hW h => va_Nw.warmF hW h, List.forall_mem_cons.mpr ⟨fun s U hW h => va_Nw.warmF hW h, List.forall_mem_cons.mpr ⟨fun s U hW h => va_Nw.warmF hW h, List.forall_mem_cons.mpr ⟨fun s U hW h => va_Nw.warmF hW h, List.forall_mem_cons.mpr ⟨fun s U hW h => va_Nw.warmF hW h, List.forall_mem_cons.mpr ⟨fun s U hW h => va_Nw.warmF hW h, List.forall_mem_cons.mpr ⟨fun s U hW h => va_Nw.warmF hW h, List.forall_mem_cons.mpr ⟨fun s U hW h => va_Nw.warmF hW h, List.forall_mem_cons.mpr ⟨fun s U hW h => va_Nw.warmF hW h, List.forall_mem_cons.mpr ⟨fun s U hW h => va_Nw.warmF hW h, List.forall_mem_cons.mpr ⟨fun s U hW h => va_Nw.warmF hW h, List.forall_mem_cons.mpr ⟨fun s U hW h => va_Nw.warmF hW h, List.forall_mem_cons.mpr ⟨fun s U hW h => va_Nw.warmF hW h, List.forall_mem_cons.mpr ⟨fun s U hW h => va_Nw.warmF hW h, List.forall_mem_cons.mpr ⟨fun s U hW h => va_Nw.warmF hW h, List.forall_mem_cons.mpr ⟨fun s U hW h => va_Nw.warmM hW h, List.forall_mem_cons.mpr ⟨fun s U hW h => va_Nw.warmM hW h, List.forall_mem_cons.mpr ⟨fun s U hW h => va_Nw.warmM hW h, List.forall_mem_cons.mpr ⟨fun s U hW h => va_Nw.warmM hW h, List.forall_mem_cons.mpr ⟨fun s U hW h => va_Nw.warmM hW h, List.forall_mem_cons.mpr ⟨fun s U hW h => va_Nw.warmM hW h, List.forall_mem_cons.mpr ⟨fun s U hW h => va_Nw.warmM hW h, List.forall_mem_cons.mpr ⟨fun s U hW h => va_Nw.warmM hW h, fun _ h => absurd h List.not_mem_nil⟩⟩⟩⟩⟩⟩⟩⟩⟩⟩⟩⟩⟩⟩⟩⟩⟩⟩⟩⟩⟩⟩⟩⟩⟩⟩⟩⟩⟩
def ch_pr (j : Nat) : Int32 := ([2, 3, 5, 7, 11, 13, 17, 19, 23, 29, 31] : List Int32).getD j 0
def ch_ZT (A : Nat → Prop) (U : State) (H : Heap) : Prop := ∃ t : Nat, va_Z "CodeHunt" "PRIMES" "[I" (.ref t) A U H ∧ va_T .int t 11 (fun j => .int (ch_pr j)) A U H
def ch_A (N : Nat) (sh : Nat → Nat) (sz : Nat) : Nat → Prop := fun q => (∃ k, k < N ∧ q = sh k) ∨ sz ≤ q
abbrev ch_FT : Type := Nat → (Nat → Int32) → (Nat → Int64) → va_E
def ch_Wd (D : va_G) (I : ch_Id) (N : Nat) (F : ch_FT) (sh : Nat → Nat) (s : State) (A : Nat → Prop) (M : ch_Mem) (H : Heap) (locs : List Loc) : Prop :=
  va_K D vwCl (ch_tys I) s ∧ va_P D vwCl (ch_W N sh (ch_cf F M)) H ∧ va_D A (ch_W N sh (ch_cf F M)) ∧ va_S A s.heap H locs ∧ (∀ q, s.heap.size ≤ q → A q) ∧ (∀ w ∈ ch_nst, va_Nw w s) ∧ ch_ZT A s s.heap
def ch_Pre (D : va_G) (I : ch_Id) (N : Nat) (F : ch_FT) (sh : Nat → Nat) (sz : Nat) (M : ch_Mem) (U : State) : Prop :=
  U.heap.size = sz ∧ va_P D vwCl (ch_W N sh (ch_cf F M)) U.heap ∧ va_K D vwCl (ch_tys I) U ∧ (∀ i j, i < N → j < N → sh i = sh j → i = j) ∧ (∀ w ∈ ch_nst, va_Nw w U) ∧ ch_ZT (ch_A N sh sz) U U.heap
def ch_Pos (D : va_G) (N : Nat) (F : ch_FT) (sh : Nat → Nat) (M : ch_Mem) (t : State) : Prop := va_P D vwCl (ch_W N sh (ch_cf F M)) t.heap
theorem ch_start {D : va_G} {I : ch_Id} {N : Nat} {F : ch_FT} {sh : Nat → Nat} {sz : Nat} {M : ch_Mem} {s : State} (h : ch_Pre D I N F sh sz M s) : ch_Wd D I N F sh s (ch_A N sh s.heap.size) M s.heap [] := by
  obtain ⟨rfl, hP, hK, hi, hn, hz⟩ := h
  refine ⟨hK, hP, ⟨fun i j x y h1 h2 hxy => ?_, fun k q hk => ?_⟩, va_S.rf, fun q h => Or.inr h, hn, hz⟩
  · obtain ⟨a1, rfl⟩ := ch_W_of h1
    obtain ⟨a2, rfl⟩ := ch_W_of h2
    exact hi i j a1 a2 hxy
  · obtain ⟨a1, rfl⟩ := ch_W_of hk
    exact Or.inl ⟨k, a1, rfl⟩
theorem ch_blind {av : List Value} {D : va_G} {I : ch_Id} {N : Nat} {F : ch_FT} {sh : Nat → Nat} {sz : Nat} {M : ch_Mem} : FrameBlind (va_Pc av (ch_Pre D I N F sh sz M)) := by
  intro a U g mk h
  obtain ⟨h0, h1, h2, h3, h4, h5, t, h6, h7⟩ := h
  exact ⟨h0, h1, h2, va_K.moved (u := U) (U := U.calling g mk a) (Vm.Alike.refl U.vm) h3, h4, fun w hw => va_Nw.same (u := U) (U := U.calling g mk a) (ch_nst_on w hw) rfl (h5 w hw), t, va_Z.moved (u := U) (U := U.calling g mk a) (Vm.Alike.refl U.vm) h6, va_T.moved (u := U) (U := U.calling g mk a) (Vm.Alike.refl U.vm) h7⟩
theorem ch_pre {D : va_G} {I : ch_Id} {N : Nat} {F : ch_FT} {sh : Nat → Nat} {A : Nat → Prop} {M : ch_Mem} {s : State} {H : Heap} {locs : List Loc} (h : ch_Wd D I N F sh s A M H locs) (U : State) (hU : U.heap = H) (hW : s.WarmedH U.vm) : ch_Pre D I N F sh H.size M U := by
  obtain ⟨hK, hP, hD, hS, hA, hn, t, hz, ht⟩ := h
  have hAA : ∀ q, ch_A N sh H.size q → A q := by
    intro q hq
    rcases hq with ⟨k, hk, rfl⟩ | hq
    · exact hD.2 k _ (ch_W_get hk)
    · exact hA q (Nat.le_trans hS.1 hq)
  refine ⟨by rw [hU], by rw [hU]; exact hP, va_K.moved hW.alike hK, fun i j hi hj e => hD.1 i j _ _ (ch_W_get hi) (ch_W_get hj) e, fun w hw => ch_nst_warm w hw s U hW (hn w hw), t, ?_, ?_⟩
  · rw [hU]; exact va_Z.moved hW.alike ((hz.kept hS.2.1).narrow hAA)
  · rw [hU]; exact va_T.moved hW.alike ((ht.kept hS.2.1).narrow hAA)
theorem ch_next {D : va_G} {I : ch_Id} {N : Nat} {F : ch_FT} {sh : Nat → Nat} {A : Nat → Prop} {M M1 : ch_Mem} {s : State} {H H1 : Heap} {locs locs1 : List Loc} (h : ch_Wd D I N F sh s A M H locs) (hP : va_P D vwCl (ch_W N sh (ch_cf F M1)) H1) (hS : va_S A s.heap H1 locs1) : ch_Wd D I N F sh s A M1 H1 locs1 :=
  ⟨h.1, hP, ch_D h.2.2.1, hS, h.2.2.2.2.1, h.2.2.2.2.2⟩
theorem ch_nw {D : va_G} {I : ch_Id} {N : Nat} {F : ch_FT} {sh : Nat → Nat} {A : Nat → Prop} {M : ch_Mem} {s : State} {H : Heap} {locs : List Loc} (h : ch_Wd D I N F sh s A M H locs) (i : Nat) {w : Cond} (hi : ch_nst[i]? = some w) {args : Array Value} : w.before args s = true :=
  va_Nw.use (ch_nst_on w (List.mem_of_getElem? hi)) (h.2.2.2.2.2.1 w (List.mem_of_getElem? hi))
theorem ch_nwN {D : va_G} {I : ch_Id} {N : Nat} {F : ch_FT} {sh : Nat → Nat} {A : Nat → Prop} {M : ch_Mem} {s : State} {H : Heap} {locs : List Loc} (h : ch_Wd D I N F sh s A M H locs) (i : Nat) {w : Cond} (hi : ch_nst[i]? = some w) : va_Nw w s := h.2.2.2.2.2.1 w (List.mem_of_getElem? hi)
section CHW
variable {p : Program} {l : Launch} {e : Env} {R : Room} {s : State} {m : MethodId} {args : Array Value} {below : List Frame} {meth : Method} {c : Code} {H : Heap} {locs : List Loc} {Q : State → Prop} {cc : ByteArray} {nL : Nat} {Ts : List Cond} {own : String} {pc : Nat} {ls : Array Slot} {rest : List Value} {D : va_G} {I : ch_Id} {N : Nat} {F : ch_FT} {sh : Nat → Nat} {A : Nat → Prop} {M M1 : ch_Mem}
theorem ch_get (S : CallFix p m c cc nL s args Ts own) (hw : ch_Wd D I N F sh s A M H locs) (k : Nat) (hk : k < N) {ci n index : Nat} {fs : List Value} {C : String} {T : u_T} {v : Value} (he : F k (M.1 k) (M.2 k) = .inr (ci, fs)) (hc : vwCl[ci]? = some (C, T, n)) (hin : ∀ w ∈ u_ws C T n, w ∈ Ts) (j : Nat) (hj : j < n) (hlink : (Cond.fieldLink own index (T j).1 (T j).2.1 (T j).2.2.1).before args s = true) (hv : fs[j]? = some v) (hdg : decode cc pc = .ok (.getfield index, 3))
    (kk : W p l e R s m args below meth c H locs 0 0 Q (F0 m (pc + 3) ls (v :: rest))) : W p l e R s m args below meth c H locs 0 0 Q (F0 m pc ls (.ref (sh k) :: rest)) :=
  va_get S.1 S.2.1 S.2.2.2.2 hin S.2.2.2.1 hw.1 hw.2.1 k ((ch_W_get hk).trans (congrArg (fun z => some (sh k, z)) he)) hc j hj hlink (fun _ h => h) hv hdg kk
theorem ch_getN (S : CallFix p m c cc nL s args Ts own) (hw : ch_Wd D I N F sh s A M H locs) (k : Nat) (hk : k < N) {ci n index : Nat} {fs : List Value} {C host : String} {T : u_T} {v : Value} (he : F k (M.1 k) (M.2 k) = .inr (ci, fs)) (hc : vwCl[ci]? = some (C, T, n)) (hin : ∀ w ∈ u_ws C T n, w ∈ Ts) (j : Nat) (hj : j < n) (hlink : (Cond.fieldLinkNest own index (T j).1 (T j).2.1 (T j).2.2.1 host).before args s = true) (hv : fs[j]? = some v) (hdg : decode cc pc = .ok (.getfield index, 3))
    (kk : W p l e R s m args below meth c H locs 0 0 Q (F0 m (pc + 3) ls (v :: rest))) : W p l e R s m args below meth c H locs 0 0 Q (F0 m pc ls (.ref (sh k) :: rest)) :=
  va_getN S.1 S.2.1 S.2.2.2.2 hin S.2.2.2.1 hw.1 hw.2.1 k ((ch_W_get hk).trans (congrArg (fun z => some (sh k, z)) he)) hc j hj hlink (fun _ h => h) hv hdg kk
theorem ch_put (S : CallFix p m c cc nL s args Ts own) (hw : ch_Wd D I N F sh s A M H locs) (k : Nat) (hk : k < N) {ci n index : Nat} {fs : List Value} {C : String} {T : u_T} {ty : FieldType} {v : Value} (he : F k (M.1 k) (M.2 k) = .inr (ci, fs)) (hc : vwCl[ci]? = some (C, T, n)) (hin : ∀ w ∈ u_ws C T n, w ∈ Ts) (ty0 : Nat → FieldType) (hty : ∀ k, k < n → parseFieldDescriptor (T k).2.2.1 = some (ty0 k)) (hnm : ∀ a, a < n → ∀ b, b < n → a ≠ b → (T a).2.1 ≠ (T b).2.1) (j : Nat) (hj : j < n) (hlink : (Cond.fieldLink own index (T j).1 (T j).2.1 (T j).2.2.1).before args s = true) (hfin : (T j).2.2.2 = false) (hd : parseFieldDescriptor (T j).2.2.1 = some ty) (hn : narrow ty v = v) (hfit : fits ty v = true) (hl : j < fs.length) (hup : va_up (ch_cf F M) k (.inr (ci, fs.set j v)) = ch_cf F M1) (hdg : decode cc pc = .ok (.putfield index, 3))
    (kk : ∀ (H1 : Heap) (locs1 : List Loc), ch_Wd D I N F sh s A M1 H1 locs1 → W p l e R s m args below meth c H1 locs1 0 0 Q (F0 m (pc + 3) ls rest)) : W p l e R s m args below meth c H locs 0 0 Q (F0 m pc ls (v :: .ref (sh k) :: rest)) :=
  va_put S.1 S.2.1 S.2.2.2.2 hin ty0 hty hnm S.2.2.2.1 hw.1 hw.2.1 hw.2.2.1 hw.2.2.2.1 k ((ch_W_get hk).trans (congrArg (fun z => some (sh k, z)) he)) hc j hj hlink (fun _ h => h) hfin hd hn hfit hl hdg (fun H1 locs1 hP _ hS => kk H1 locs1 (ch_next hw (by rw [ch_W_set, hup] at hP; exact hP) hS))
theorem ch_putN (S : CallFix p m c cc nL s args Ts own) (hw : ch_Wd D I N F sh s A M H locs) (k : Nat) (hk : k < N) {ci n index : Nat} {fs : List Value} {C host : String} {T : u_T} {ty : FieldType} {v : Value} (he : F k (M.1 k) (M.2 k) = .inr (ci, fs)) (hc : vwCl[ci]? = some (C, T, n)) (hin : ∀ w ∈ u_ws C T n, w ∈ Ts) (ty0 : Nat → FieldType) (hty : ∀ k, k < n → parseFieldDescriptor (T k).2.2.1 = some (ty0 k)) (hnm : ∀ a, a < n → ∀ b, b < n → a ≠ b → (T a).2.1 ≠ (T b).2.1) (j : Nat) (hj : j < n) (hlink : (Cond.fieldLinkNest own index (T j).1 (T j).2.1 (T j).2.2.1 host).before args s = true) (hfin : (T j).2.2.2 = false) (hd : parseFieldDescriptor (T j).2.2.1 = some ty) (hn : narrow ty v = v) (hfit : fits ty v = true) (hl : j < fs.length) (hup : va_up (ch_cf F M) k (.inr (ci, fs.set j v)) = ch_cf F M1) (hdg : decode cc pc = .ok (.putfield index, 3))
    (kk : ∀ (H1 : Heap) (locs1 : List Loc), ch_Wd D I N F sh s A M1 H1 locs1 → W p l e R s m args below meth c H1 locs1 0 0 Q (F0 m (pc + 3) ls rest)) : W p l e R s m args below meth c H locs 0 0 Q (F0 m pc ls (v :: .ref (sh k) :: rest)) :=
  va_putN S.1 S.2.1 S.2.2.2.2 hin ty0 hty hnm S.2.2.2.1 hw.1 hw.2.1 hw.2.2.1 hw.2.2.2.1 k ((ch_W_get hk).trans (congrArg (fun z => some (sh k, z)) he)) hc j hj hlink (fun _ h => h) hfin hd hn hfit hl hdg (fun H1 locs1 hP _ hS => kk H1 locs1 (ch_next hw (by rw [ch_W_set, hup] at hP; exact hP) hS))
theorem ch_iald (S : CallFix p m c cc nL s args Ts own) (hw : ch_Wd D I N F sh s A M H locs) (k : Nat) (hk : k < N) {n : Nat} (he : F k (M.1 k) (M.2 k) = .inl (I.1, n, .inl (M.1 k))) {i : Int32} (hin : vp_in i n) (hdg : decode cc pc = .ok (.iaload, 1))
    (kk : W p l e R s m args below meth c H locs 0 0 Q (F0 m (pc + 1) ls (.int (M.1 k i.toNatClampNeg) :: rest))) : W p l e R s m args below meth c H locs 0 0 Q (F0 m pc ls (.int i :: .ref (sh k) :: rest)) :=
  va_iald S.1 S.2.1 hw.1 hw.2.1 k 0 ((ch_W_get hk).trans (congrArg (fun z => some (sh k, z)) he)) rfl hin hdg kk
theorem ch_zald (S : CallFix p m c cc nL s args Ts own) (hw : ch_Wd D I N F sh s A M H locs) (k : Nat) (hk : k < N) {n : Nat} (he : F k (M.1 k) (M.2 k) = .inl (I.2.1, n, .inl (M.1 k))) {i : Int32} (hin : vp_in i n) (hdg : decode cc pc = .ok (.baload, 1))
    (kk : W p l e R s m args below meth c H locs 0 0 Q (F0 m (pc + 1) ls (.int (M.1 k i.toNatClampNeg) :: rest))) : W p l e R s m args below meth c H locs 0 0 Q (F0 m pc ls (.int i :: .ref (sh k) :: rest)) :=
  va_zald S.1 S.2.1 hw.1 hw.2.1 k 1 ((ch_W_get hk).trans (congrArg (fun z => some (sh k, z)) he)) rfl hin hdg kk
theorem ch_iast (S : CallFix p m c cc nL s args Ts own) (hw : ch_Wd D I N F sh s A M H locs) (k : Nat) (hk : k < N) {n : Nat} (he : ∀ f, F k f (M.2 k) = .inl (I.1, n, .inl f)) {i x : Int32} (hin : vp_in i n) (hdg : decode cc pc = .ok (.iastore, 1))
    (kk : ∀ (H1 : Heap) (locs1 : List Loc), ch_Wd D I N F sh s A (ch_wI M k i.toNatClampNeg x) H1 locs1 → W p l e R s m args below meth c H1 locs1 0 0 Q (F0 m (pc + 1) ls rest)) : W p l e R s m args below meth c H locs 0 0 Q (F0 m pc ls (.int x :: .int i :: .ref (sh k) :: rest)) :=
  va_iast S.1 S.2.1 hw.1 hw.2.1 hw.2.2.1 hw.2.2.2.1 k 0 ((ch_W_get hk).trans (congrArg (fun z => some (sh k, z)) (he (M.1 k)))) rfl hin hdg (fun H1 locs1 hP _ hS => kk H1 locs1 (ch_next hw (by rw [ch_W_set, ch_cf_wI (j := i.toNatClampNeg) (v := x) (he _)] at hP; exact hP) hS))
theorem ch_zast (S : CallFix p m c cc nL s args Ts own) (hw : ch_Wd D I N F sh s A M H locs) (k : Nat) (hk : k < N) {n : Nat} (he : ∀ f, F k f (M.2 k) = .inl (I.2.1, n, .inl f)) {i x : Int32} (hx : vp_nar .boolean x = x) (hin : vp_in i n) (hdg : decode cc pc = .ok (.bastore, 1))
    (kk : ∀ (H1 : Heap) (locs1 : List Loc), ch_Wd D I N F sh s A (ch_wI M k i.toNatClampNeg x) H1 locs1 → W p l e R s m args below meth c H1 locs1 0 0 Q (F0 m (pc + 1) ls rest)) : W p l e R s m args below meth c H locs 0 0 Q (F0 m pc ls (.int x :: .int i :: .ref (sh k) :: rest)) :=
  va_zast S.1 S.2.1 hw.1 hw.2.1 hw.2.2.1 hw.2.2.2.1 k 1 ((ch_W_get hk).trans (congrArg (fun z => some (sh k, z)) (he (M.1 k)))) rfl hin hdg (fun H1 locs1 hP _ hS => kk H1 locs1 (ch_next hw (by rw [hx, ch_W_set, ch_cf_wI (j := i.toNatClampNeg) (v := x) (he _)] at hP; exact hP) hS))
theorem ch_alen (S : CallFix p m c cc nL s args Ts own) (hw : ch_Wd D I N F sh s A M H locs) (k : Nat) (hk : k < N) {n : Nat} (he : F k (M.1 k) (M.2 k) = .inl (I.1, n, .inl (M.1 k))) (hdg : decode cc pc = .ok (.arraylength, 1))
    (kk : W p l e R s m args below meth c H locs 0 0 Q (F0 m (pc + 1) ls (.int (nI n) :: rest))) : W p l e R s m args below meth c H locs 0 0 Q (F0 m pc ls (.ref (sh k) :: rest)) :=
  va_alen S.1 S.2.1 hw.1 hw.2.1 k 0 ((ch_W_get hk).trans (congrArg (fun z => some (sh k, z)) he)) rfl rfl hdg kk
theorem ch_rows (S : CallFix p m c cc nL s args Ts own) (hw : ch_Wd D I 40 (ch_FC I sh) sh s A M H locs) {i : Int32} (hin : vp_in i 8) (hdg : decode cc pc = .ok (.aaload, 1))
    (kk : W p l e R s m args below meth c H locs 0 0 Q (F0 m (pc + 1) ls (.ref (sh (7 + i.toNatClampNeg)) :: rest))) : W p l e R s m args below meth c H locs 0 0 Q (F0 m pc ls (.int i :: .ref (sh 1) :: rest)) :=
  va_aldq S.1 S.2.1 hw.1 hw.2.1 1 2 (C := RX3) (ch_W_get (k := 1) (by decide)) rfl hin hdg kk
theorem ch_reels (S : CallFix p m c cc nL s args Ts own) (hw : ch_Wd D I 40 (ch_FC I sh) sh s A M H locs) {i : Int32} (hin : vp_in i 4) (hdg : decode cc pc = .ok (.aaload, 1))
    (kk : W p l e R s m args below meth c H locs 0 0 Q (F0 m (pc + 1) ls (.ref (sh (23 + i.toNatClampNeg)) :: rest))) : W p l e R s m args below meth c H locs 0 0 Q (F0 m pc ls (.int i :: .ref (sh 2) :: rest)) :=
  va_aldq S.1 S.2.1 hw.1 hw.2.1 2 3 (C := RX2) (ch_W_get (k := 2) (by decide)) rfl hin hdg kk
theorem ch_copy {index : Nat} (S : CallFix p m c cc nL s args Ts own) (hml : ls.size = nL) (hlink : (Cond.methodLink own index arraycopyName).before args s = true) (hnat : (Cond.native arraycopyName).before args s = true) (hstat : (Cond.static arraycopyName).before args s = true) (hini : (Cond.initialized "java/lang/System").before args s = true) (hw : ch_Wd D I N F sh s A M H locs) (k0 k1 : Nat) (hk0 : k0 < N) (hk1 : k1 < N) {n0 n1 : Nat} (he0 : F k0 (M.1 k0) (M.2 k0) = .inl (I.1, n0, .inl (M.1 k0))) (he1 : ∀ f, F k1 f (M.2 k1) = .inl (I.1, n1, .inl f)) {sp dp n : Int32} (h1 : ¬ sp < 0) (h2 : ¬ dp < 0) (h3 : ¬ n < 0) (h4 : sp.toNatClampNeg + n.toNatClampNeg ≤ n0) (h5 : dp.toNatClampNeg + n.toNatClampNeg ≤ n1) (hfr : 1 ≤ R.frames) (hlo : (rest.map fun v => v.category).sum + (nativeFrameWords "java/lang/System" "arraycopy" 5 + 11) ≤ R.locals) (hdg : decode cc pc = .ok (.invokestatic index, 3))
    (kk : ∀ (H1 : Heap) (locs1 : List Loc), ch_Wd D I N F sh s A (ch_wA M k1 (va_cpy (M.1 k0) (M.1 k1) sp.toNatClampNeg dp.toNatClampNeg n.toNatClampNeg)) H1 locs1 → W p l e R s m args below meth c H1 locs1 0 0 Q (F0 m (pc + 3) ls rest)) : W p l e R s m args below meth c H locs 0 0 Q (F0 m pc ls (.int n :: .int dp :: .ref (sh k1) :: .int sp :: .ref (sh k0) :: rest)) :=
  va_copyi S.1 S.2.1 (S.2.2.1.trans hml.symm) S.2.2.2.1 hlink hnat hstat hini hw.1 hw.2.1 hw.2.2.1 hw.2.2.2.1 k0 k1 0 0 (ty := .int) ((ch_W_get hk0).trans (congrArg (fun z => some (sh k0, z)) he0)) ((ch_W_get hk1).trans (congrArg (fun z => some (sh k1, z)) (he1 (M.1 k1)))) rfl rfl rfl h1 h2 h3 h4 h5 (fun _ _ => rfl) hfr hlo hdg (fun H1 locs1 hP _ hS => kk H1 locs1 (ch_next hw (by rw [ch_W_set, ch_cf_wA (he1 _)] at hP; exact hP) hS))
/-! calls inside one world -/
theorem ch_pV {C : String} {k : Nat} {As : List Value} {ci : Nat} {q : vw_C} {fs : List Value} (hw : ch_Wd D I N F sh s A M H locs) (hk : k < N) (he : F k (M.1 k) (M.2 k) = .inr (ci, fs)) (hc : vwCl[ci]? = some q) (hC : q.1 = C) : PreV s H C (sh k) (va_Pc (.ref (sh k) :: As) (ch_Pre D I N F sh H.size M)) As := by
  subst hC
  exact ⟨ch_blind, va_recv hw.1 hw.2.1 hc ((ch_W_get hk).trans (congrArg (fun z => some (sh k, z)) he)), fun U hU hW => ⟨rfl, ch_pre hw U hU hW⟩⟩
theorem ch_pS {As : List Value} (hw : ch_Wd D I N F sh s A M H locs) : PreS s H (va_Pc As (ch_Pre D I N F sh H.size M)) As := ⟨ch_blind, fun U hU hW => ⟨rfl, ch_pre hw U hU hW⟩⟩
theorem ch_AA (hw : ch_Wd D I N F sh s A M H locs) : ∀ q, ch_A N sh H.size q → A q := by
  intro q hq
  rcases hq with ⟨k, hk, rfl⟩ | hq
  · exact hw.2.2.1.2 k _ (ch_W_get hk)
  · exact hw.2.2.2.2.1 q (Nat.le_trans hw.2.2.2.1.1 hq)
theorem ch_ci {st0 : List Value} {a : Array Value} {r : Int32} (hw : ch_Wd D I N F sh s A M H locs) (hr : va_Run p l e R s m args below meth c H locs 0 0 0 0 (F0 m pc ls st0) rest (va_Qi (fun r' (u : ch_Mem) => r' = r ∧ u = M1) (ch_Pos D N F sh) (ch_A N sh H.size) a) (ch_A N sh H.size))
    (kk : ∀ (H1 : Heap) (locs1 : List Loc), ch_Wd D I N F sh s A M1 H1 locs1 → W p l e R s m args below meth c H1 locs1 0 0 Q (F0 m (pc + 3) ls (.int r :: rest))) : W p l e R s m args below meth c H locs 0 0 Q (F0 m pc ls st0) :=
  va_calli hr hw.2.2.2.1 (fun q _ h => ch_AA hw q h) (ch_AA hw) (fun r' u t H1 locs1 ht _ hp hB _ _ hS => by
    obtain ⟨rfl, rfl⟩ := hp
    exact kk H1 locs1 (ch_next hw (by rw [← ht]; exact hB) hS))
theorem ch_cl {st0 : List Value} {a : Array Value} {r : Int64} (hw : ch_Wd D I N F sh s A M H locs) (hr : va_Run p l e R s m args below meth c H locs 0 0 0 0 (F0 m pc ls st0) rest (va_Ql (fun r' (u : ch_Mem) => r' = r ∧ u = M1) (ch_Pos D N F sh) (ch_A N sh H.size) a) (ch_A N sh H.size))
    (kk : ∀ (H1 : Heap) (locs1 : List Loc), ch_Wd D I N F sh s A M1 H1 locs1 → W p l e R s m args below meth c H1 locs1 0 0 Q (F0 m (pc + 3) ls (.long r :: rest))) : W p l e R s m args below meth c H locs 0 0 Q (F0 m pc ls st0) :=
  va_calll hr hw.2.2.2.1 (fun q _ h => ch_AA hw q h) (ch_AA hw) (fun r' u t H1 locs1 ht _ hp hB _ _ hS => by
    obtain ⟨rfl, rfl⟩ := hp
    exact kk H1 locs1 (ch_next hw (by rw [← ht]; exact hB) hS))
theorem ch_cv {st0 : List Value} {a : Array Value} (hw : ch_Wd D I N F sh s A M H locs) (hr : va_Run p l e R s m args below meth c H locs 0 0 0 0 (F0 m pc ls st0) rest (va_Qv (fun (u : ch_Mem) => u = M1) (ch_Pos D N F sh) (ch_A N sh H.size) a) (ch_A N sh H.size))
    (kk : ∀ (H1 : Heap) (locs1 : List Loc), ch_Wd D I N F sh s A M1 H1 locs1 → W p l e R s m args below meth c H1 locs1 0 0 Q (F0 m (pc + 3) ls rest)) : W p l e R s m args below meth c H locs 0 0 Q (F0 m pc ls st0) :=
  va_callv hr hw.2.2.2.1 (fun q _ h => ch_AA hw q h) (ch_AA hw) (fun u t H1 locs1 ht _ hp hB _ _ hS => by
    obtain rfl := hp
    exact kk H1 locs1 (ch_next hw (by rw [← ht]; exact hB) hS))
theorem ch_topi {β : Type} {x : Int32} {f : Int32 → Option β} {o : β} (h : ch_nm x f = some o) (k : ∀ y : Int32, f y = some o → W p l e R s m args below meth c H locs 0 0 Q (F0 m pc ls (.int y :: rest))) : W p l e R s m args below meth c H locs 0 0 Q (F0 m pc ls (.int x :: rest)) := k x h
theorem ch_topl {β : Type} {x : Int64} {f : Int64 → Option β} {o : β} (h : ch_nm x f = some o) (k : ∀ y : Int64, f y = some o → W p l e R s m args below meth c H locs 0 0 Q (F0 m pc ls (.long y :: rest))) : W p l e R s m args below meth c H locs 0 0 Q (F0 m pc ls (.long x :: rest)) := k x h
/-! branches: the machine's and the function's together -/
theorem ch_icmp_eq {β : Type} {X Y : Option β} {o : β} (hx : p.tables.exec = Jvm.exec) (hb : c.code = cc) {x y : Int32} {off : Int} {tgt : Nat} (hdg : decode cc pc = .ok (.if_icmp .eq off, 3)) (ht : (pc : Int) + off = (tgt : Int)) (h : (if x = y then X else Y) = some o)
    (kt : X = some o → W p l e R s m args below meth c H locs 0 0 Q (F0 m tgt ls rest)) (kf : Y = some o → W p l e R s m args below meth c H locs 0 0 Q (F0 m (pc + 3) ls rest)) : W p l e R s m args below meth c H locs 0 0 Q (F0 m pc ls (.int y :: .int x :: rest)) :=
  lv_icmp_eq hx hb hdg ht (fun q => kt (by rw [if_pos q] at h; exact h)) (fun q => kf (by rw [if_neg q] at h; exact h))
theorem ch_icmp_ne {β : Type} {X Y : Option β} {o : β} (hx : p.tables.exec = Jvm.exec) (hb : c.code = cc) {x y : Int32} {off : Int} {tgt : Nat} (hdg : decode cc pc = .ok (.if_icmp .ne off, 3)) (ht : (pc : Int) + off = (tgt : Int)) (h : (if x = y then X else Y) = some o)
    (kt : Y = some o → W p l e R s m args below meth c H locs 0 0 Q (F0 m tgt ls rest)) (kf : X = some o → W p l e R s m args below meth c H locs 0 0 Q (F0 m (pc + 3) ls rest)) : W p l e R s m args below meth c H locs 0 0 Q (F0 m pc ls (.int y :: .int x :: rest)) :=
  lv_icmp_ne hx hb hdg ht (fun q => kt (by rw [if_neg q] at h; exact h)) (fun q => kf (by rw [if_pos q] at h; exact h))
theorem ch_icmp_lt {β : Type} {X Y : Option β} {o : β} (hx : p.tables.exec = Jvm.exec) (hb : c.code = cc) {x y : Int32} {off : Int} {tgt : Nat} (hdg : decode cc pc = .ok (.if_icmp .lt off, 3)) (ht : (pc : Int) + off = (tgt : Int)) (h : (if x < y then X else Y) = some o)
    (kt : X = some o → W p l e R s m args below meth c H locs 0 0 Q (F0 m tgt ls rest)) (kf : Y = some o → W p l e R s m args below meth c H locs 0 0 Q (F0 m (pc + 3) ls rest)) : W p l e R s m args below meth c H locs 0 0 Q (F0 m pc ls (.int y :: .int x :: rest)) :=
  lv_icmp_lt hx hb hdg ht (fun q => kt (by rw [if_pos q] at h; exact h)) (fun q => kf (by rw [if_neg q] at h; exact h))
theorem ch_icmp_ge {β : Type} {X Y : Option β} {o : β} (hx : p.tables.exec = Jvm.exec) (hb : c.code = cc) {x y : Int32} {off : Int} {tgt : Nat} (hdg : decode cc pc = .ok (.if_icmp .ge off, 3)) (ht : (pc : Int) + off = (tgt : Int)) (h : (if y ≤ x then X else Y) = some o)
    (kt : X = some o → W p l e R s m args below meth c H locs 0 0 Q (F0 m tgt ls rest)) (kf : Y = some o → W p l e R s m args below meth c H locs 0 0 Q (F0 m (pc + 3) ls rest)) : W p l e R s m args below meth c H locs 0 0 Q (F0 m pc ls (.int y :: .int x :: rest)) :=
  lv_icmp_ge hx hb hdg ht (fun q => kt (by rw [if_pos q] at h; exact h)) (fun q => kf (by rw [if_neg q] at h; exact h))
theorem ch_icmp_gt {β : Type} {X Y : Option β} {o : β} (hx : p.tables.exec = Jvm.exec) (hb : c.code = cc) {x y : Int32} {off : Int} {tgt : Nat} (hdg : decode cc pc = .ok (.if_icmp .gt off, 3)) (ht : (pc : Int) + off = (tgt : Int)) (h : (if y < x then X else Y) = some o)
    (kt : X = some o → W p l e R s m args below meth c H locs 0 0 Q (F0 m tgt ls rest)) (kf : Y = some o → W p l e R s m args below meth c H locs 0 0 Q (F0 m (pc + 3) ls rest)) : W p l e R s m args below meth c H locs 0 0 Q (F0 m pc ls (.int y :: .int x :: rest)) :=
  lv_icmp_gt hx hb hdg ht (fun q => kt (by rw [if_pos q] at h; exact h)) (fun q => kf (by rw [if_neg q] at h; exact h))
theorem ch_icmp_le {β : Type} {X Y : Option β} {o : β} (hx : p.tables.exec = Jvm.exec) (hb : c.code = cc) {x y : Int32} {off : Int} {tgt : Nat} (hdg : decode cc pc = .ok (.if_icmp .le off, 3)) (ht : (pc : Int) + off = (tgt : Int)) (h : (if x ≤ y then X else Y) = some o)
    (kt : X = some o → W p l e R s m args below meth c H locs 0 0 Q (F0 m tgt ls rest)) (kf : Y = some o → W p l e R s m args below meth c H locs 0 0 Q (F0 m (pc + 3) ls rest)) : W p l e R s m args below meth c H locs 0 0 Q (F0 m pc ls (.int y :: .int x :: rest)) :=
  lv_icmp_le hx hb hdg ht (fun q => kt (by rw [if_pos q] at h; exact h)) (fun q => kf (by rw [if_neg q] at h; exact h))
theorem ch_if_eq {β : Type} {X Y : Option β} {o : β} (hx : p.tables.exec = Jvm.exec) (hb : c.code = cc) {x : Int32} {off : Int} {tgt : Nat} (hdg : decode cc pc = .ok (.ifCond .eq off, 3)) (ht : (pc : Int) + off = (tgt : Int)) (h : (if x = 0 then X else Y) = some o)
    (kt : X = some o → W p l e R s m args below meth c H locs 0 0 Q (F0 m tgt ls rest)) (kf : Y = some o → W p l e R s m args below meth c H locs 0 0 Q (F0 m (pc + 3) ls rest)) : W p l e R s m args below meth c H locs 0 0 Q (F0 m pc ls (.int x :: rest)) :=
  lv_if_eq hx hb hdg ht (fun q => kt (by rw [if_pos q] at h; exact h)) (fun q => kf (by rw [if_neg q] at h; exact h))
theorem ch_if_ne {β : Type} {X Y : Option β} {o : β} (hx : p.tables.exec = Jvm.exec) (hb : c.code = cc) {x : Int32} {off : Int} {tgt : Nat} (hdg : decode cc pc = .ok (.ifCond .ne off, 3)) (ht : (pc : Int) + off = (tgt : Int)) (h : (if x = 0 then X else Y) = some o)
    (kt : Y = some o → W p l e R s m args below meth c H locs 0 0 Q (F0 m tgt ls rest)) (kf : X = some o → W p l e R s m args below meth c H locs 0 0 Q (F0 m (pc + 3) ls rest)) : W p l e R s m args below meth c H locs 0 0 Q (F0 m pc ls (.int x :: rest)) :=
  lv_if_ne hx hb hdg ht (fun q => kt (by rw [if_neg q] at h; exact h)) (fun q => kf (by rw [if_pos q] at h; exact h))
theorem ch_if_lt {β : Type} {X Y : Option β} {o : β} (hx : p.tables.exec = Jvm.exec) (hb : c.code = cc) {x : Int32} {off : Int} {tgt : Nat} (hdg : decode cc pc = .ok (.ifCond .lt off, 3)) (ht : (pc : Int) + off = (tgt : Int)) (h : (if x < 0 then X else Y) = some o)
    (kt : X = some o → W p l e R s m args below meth c H locs 0 0 Q (F0 m tgt ls rest)) (kf : Y = some o → W p l e R s m args below meth c H locs 0 0 Q (F0 m (pc + 3) ls rest)) : W p l e R s m args below meth c H locs 0 0 Q (F0 m pc ls (.int x :: rest)) :=
  lv_if_lt hx hb hdg ht (fun q => kt (by rw [if_pos q] at h; exact h)) (fun q => kf (by rw [if_neg q] at h; exact h))
theorem ch_if_ge {β : Type} {X Y : Option β} {o : β} (hx : p.tables.exec = Jvm.exec) (hb : c.code = cc) {x : Int32} {off : Int} {tgt : Nat} (hdg : decode cc pc = .ok (.ifCond .ge off, 3)) (ht : (pc : Int) + off = (tgt : Int)) (h : (if 0 ≤ x then X else Y) = some o)
    (kt : X = some o → W p l e R s m args below meth c H locs 0 0 Q (F0 m tgt ls rest)) (kf : Y = some o → W p l e R s m args below meth c H locs 0 0 Q (F0 m (pc + 3) ls rest)) : W p l e R s m args below meth c H locs 0 0 Q (F0 m pc ls (.int x :: rest)) :=
  lv_if_ge hx hb hdg ht (fun q => kt (by rw [if_pos q] at h; exact h)) (fun q => kf (by rw [if_neg q] at h; exact h))
theorem ch_if_gt {β : Type} {X Y : Option β} {o : β} (hx : p.tables.exec = Jvm.exec) (hb : c.code = cc) {x : Int32} {off : Int} {tgt : Nat} (hdg : decode cc pc = .ok (.ifCond .gt off, 3)) (ht : (pc : Int) + off = (tgt : Int)) (h : (if 0 < x then X else Y) = some o)
    (kt : X = some o → W p l e R s m args below meth c H locs 0 0 Q (F0 m tgt ls rest)) (kf : Y = some o → W p l e R s m args below meth c H locs 0 0 Q (F0 m (pc + 3) ls rest)) : W p l e R s m args below meth c H locs 0 0 Q (F0 m pc ls (.int x :: rest)) :=
  lv_if_gt hx hb hdg ht (fun q => kt (by rw [if_pos q] at h; exact h)) (fun q => kf (by rw [if_neg q] at h; exact h))
theorem ch_if_le {β : Type} {X Y : Option β} {o : β} (hx : p.tables.exec = Jvm.exec) (hb : c.code = cc) {x : Int32} {off : Int} {tgt : Nat} (hdg : decode cc pc = .ok (.ifCond .le off, 3)) (ht : (pc : Int) + off = (tgt : Int)) (h : (if x ≤ 0 then X else Y) = some o)
    (kt : X = some o → W p l e R s m args below meth c H locs 0 0 Q (F0 m tgt ls rest)) (kf : Y = some o → W p l e R s m args below meth c H locs 0 0 Q (F0 m (pc + 3) ls rest)) : W p l e R s m args below meth c H locs 0 0 Q (F0 m pc ls (.int x :: rest)) :=
  lv_if_le hx hb hdg ht (fun q => kt (by rw [if_pos q] at h; exact h)) (fun q => kf (by rw [if_neg q] at h; exact h))
/-! ends -/
abbrev ch_FinI (p : Program) (l : Launch) (e : Env) (R : Room) (s : State) (m : MethodId) (args : Array Value) (below : List Frame) (meth : Method) (c : Code) (cc : ByteArray) (Q : State → Prop) (D : va_G) (I : ch_Id) (N : Nat) (F : ch_FT) (sh : Nat → Nat) (A : Nat → Prop) (o : Int32 × ch_Mem) : Prop :=
  ∀ (pc : Nat) (ls : Array Slot) (H : Heap) (locs : List Loc) (r : Int32) (M : ch_Mem), some (r, M) = some o → ch_Wd D I N F sh s A M H locs → decode cc pc = .ok (.ireturn, 1) → W p l e R s m args below meth c H locs 0 0 Q (F0 m pc ls [.int r])
abbrev ch_FinZ (p : Program) (l : Launch) (e : Env) (R : Room) (s : State) (m : MethodId) (args : Array Value) (below : List Frame) (meth : Method) (c : Code) (cc : ByteArray) (Q : State → Prop) (D : va_G) (I : ch_Id) (N : Nat) (F : ch_FT) (sh : Nat → Nat) (A : Nat → Prop) (o : Int32 × ch_Mem) : Prop :=
  ∀ (pc : Nat) (ls : Array Slot) (H : Heap) (locs : List Loc) (r : Int32) (M : ch_Mem), narrow .boolean (.int r) = .int r → some (r, M) = some o → ch_Wd D I N F sh s A M H locs → decode cc pc = .ok (.ireturn, 1) → W p l e R s m args below meth c H locs 0 0 Q (F0 m pc ls [.int r])
abbrev ch_FinL (p : Program) (l : Launch) (e : Env) (R : Room) (s : State) (m : MethodId) (args : Array Value) (below : List Frame) (meth : Method) (c : Code) (cc : ByteArray) (Q : State → Prop) (D : va_G) (I : ch_Id) (N : Nat) (F : ch_FT) (sh : Nat → Nat) (A : Nat → Prop) (o : Int64 × ch_Mem) : Prop :=
  ∀ (pc : Nat) (ls : Array Slot) (H : Heap) (locs : List Loc) (r : Int64) (M : ch_Mem), some (r, M) = some o → ch_Wd D I N F sh s A M H locs → decode cc pc = .ok (.lreturn, 1) → W p l e R s m args below meth c H locs 0 0 Q (F0 m pc ls [.long r])
abbrev ch_FinV (p : Program) (l : Launch) (e : Env) (R : Room) (s : State) (m : MethodId) (args : Array Value) (below : List Frame) (meth : Method) (c : Code) (cc : ByteArray) (Q : State → Prop) (D : va_G) (I : ch_Id) (N : Nat) (F : ch_FT) (sh : Nat → Nat) (A : Nat → Prop) (o : Unit × ch_Mem) : Prop :=
  ∀ (pc : Nat) (ls : Array Slot) (H : Heap) (locs : List Loc) (M : ch_Mem), some ((), M) = some o → ch_Wd D I N F sh s A M H locs → decode cc pc = .ok (.return_, 1) → W p l e R s m args below meth c H locs 0 0 Q (F0 m pc ls [])
theorem ch_finI {B : Nat → Prop} {r0 : Int32} {M0 : ch_Mem} (hx : p.tables.exec = Jvm.exec) (hb : c.code = cc) (hr : meth.sig.returnType = some .int) (hlk : meth.locks = false) : ch_FinI p l e R s m args below meth c cc (MQ below (va_Qi (fun r' (u : ch_Mem) => r' = r0 ∧ u = M0) (ch_Pos D N F sh) A) args s 0 0 A) D I N F sh A (r0, M0) := by
  intro pc ls H locs r M ho hw hdg
  cases ho
  exact W.iret hx hb hr (fun t ht _ => ⟨⟨_, _, rfl, ⟨rfl, rfl⟩, by show va_P _ _ _ t.heap; rw [ht]; exact hw.2.1⟩, hw.2.2.2.1.F ht⟩) hw.2.2.2.1.2.2 hdg hlk
theorem ch_finZ {r0 : Int32} {M0 : ch_Mem} (hx : p.tables.exec = Jvm.exec) (hb : c.code = cc) (hr : meth.sig.returnType = some .boolean) (hlk : meth.locks = false) : ch_FinZ p l e R s m args below meth c cc (MQ below (va_Qi (fun r' (u : ch_Mem) => r' = r0 ∧ u = M0) (ch_Pos D N F sh) A) args s 0 0 A) D I N F sh A (r0, M0) := by
  intro pc ls H locs r M hn ho hw hdg
  cases ho
  exact W.zret hx hb hr hn (fun t ht _ => ⟨⟨_, _, rfl, ⟨rfl, rfl⟩, by show va_P _ _ _ t.heap; rw [ht]; exact hw.2.1⟩, hw.2.2.2.1.F ht⟩) hw.2.2.2.1.2.2 hdg hlk
theorem ch_finL {r0 : Int64} {M0 : ch_Mem} (hx : p.tables.exec = Jvm.exec) (hb : c.code = cc) (hr : meth.sig.returnType = some .long) (hlk : meth.locks = false) : ch_FinL p l e R s m args below meth c cc (MQ below (va_Ql (fun r' (u : ch_Mem) => r' = r0 ∧ u = M0) (ch_Pos D N F sh) A) args s 0 0 A) D I N F sh A (r0, M0) := by
  intro pc ls H locs r M ho hw hdg
  cases ho
  exact W.lret hx hb hr (fun t ht _ => ⟨⟨_, _, rfl, ⟨rfl, rfl⟩, by show va_P _ _ _ t.heap; rw [ht]; exact hw.2.1⟩, hw.2.2.2.1.F ht⟩) hw.2.2.2.1.2.2 hdg hlk
theorem ch_finV {M0 : ch_Mem} (hx : p.tables.exec = Jvm.exec) (hb : c.code = cc) (hr : meth.sig.returnType = none) (hlk : meth.locks = false) : ch_FinV p l e R s m args below meth c cc (MQ below (va_Qv (fun (u : ch_Mem) => u = M0) (ch_Pos D N F sh) A) args s 0 0 A) D I N F sh A ((), M0) := by
  intro pc ls H locs M ho hw hdg
  cases ho
  exact W.vret hx hb hr (fun t ht _ => ⟨⟨_, rfl, rfl, by show va_P _ _ _ t.heap; rw [ht]; exact hw.2.1⟩, hw.2.2.2.1.F ht⟩) hw.2.2.2.1.2.2 hdg hlk
end CHW
end
section
abbrev rm_X0_fits : Room := { frames := 0, cells := 0, slots := 0, locals := 0 }
def D_X0_fits (x1 : Int64) (x3 : Int32) (M : ch_Mem) : Option (Int32 × ch_Mem) :=
  ch_gd x3 5 ((if (M.1 38 x3.toNatClampNeg) ≤ 0 then some ((0 : Int32), M) else ch_gd x3 5 (ch_g0L ((M.1 38 x3.toNatClampNeg).toInt64) (ch_gd x3 5 ((if (lg_cmp (x1 - x1 / ((M.1 38 x3.toNatClampNeg).toInt64) * ((M.1 38 x3.toNatClampNeg).toInt64)) ((M.1 39 x3.toNatClampNeg).toInt64)) = 0 then some ((1 : Int32), M) else some ((0 : Int32), M)))))))
abbrev rm_X0_haveDivisorWith : Room := { frames := 0, cells := 0, slots := 0, locals := 0 }
def D_X0_haveDivisorWith_b36 (k2 : Int32 → Int32 → ch_Mem → Option (Int32 × ch_Mem)) (k9 : Int32 → Int32 → Int32 → ch_Mem → Option (Int32 × ch_Mem)) (x1 : Int32) (x2 : Int32) (x3 : Int32) (M : ch_Mem) : Option (Int32 × ch_Mem) :=
  k9 x1 x2 (x3 + (1 : Int32)) M
def D_X0_haveDivisorWith_b42 (k2 : Int32 → Int32 → ch_Mem → Option (Int32 × ch_Mem)) (x1 : Int32) (x2 : Int32) (M : ch_Mem) : Option (Int32 × ch_Mem) :=
  k2 x1 (x2 + (1 : Int32)) M
def D_X0_haveDivisorWith_b9 (k2 : Int32 → Int32 → ch_Mem → Option (Int32 × ch_Mem)) (k9 : Int32 → Int32 → Int32 → ch_Mem → Option (Int32 × ch_Mem)) (x1 : Int32) (x2 : Int32) (x3 : Int32) (M : ch_Mem) : Option (Int32 × ch_Mem) :=
  (if (M.1 6 2) ≤ x3 then D_X0_haveDivisorWith_b42 k2 x1 x2 M else ch_g0 x2 ((if (x1 - x1 / x2 * x2) = 0 then ch_gd x3 5 (ch_g0 x2 ((if ((M.1 38 x3.toNatClampNeg) - (M.1 38 x3.toNatClampNeg) / x2 * x2) = 0 then some ((1 : Int32), M) else D_X0_haveDivisorWith_b36 k2 k9 x1 x2 x3 M))) else D_X0_haveDivisorWith_b36 k2 k9 x1 x2 x3 M)))
def D_X0_haveDivisorWith_L9 (k2 : Int32 → Int32 → ch_Mem → Option (Int32 × ch_Mem)) (n : Nat) : Int32 → Int32 → Int32 → ch_Mem → Option (Int32 × ch_Mem) := ch_fix (fun _ _ _ _ => none) (fun k => D_X0_haveDivisorWith_b9 k2 k) n
def D_X0_haveDivisorWith_b2 (k2 : Int32 → Int32 → ch_Mem → Option (Int32 × ch_Mem)) (x1 : Int32) (x2 : Int32) (M : ch_Mem) : Option (Int32 × ch_Mem) :=
  (if x1 < x2 then some ((0 : Int32), M) else D_X0_haveDivisorWith_L9 k2 ch_fu x1 x2 (0 : Int32) M)
def D_X0_haveDivisorWith_L2  (n : Nat) : Int32 → Int32 → ch_Mem → Option (Int32 × ch_Mem) := ch_fix (fun _ _ _ => none) (fun k => D_X0_haveDivisorWith_b2  k) n
def D_X0_haveDivisorWith (x1 : Int32) (M : ch_Mem) : Option (Int32 × ch_Mem) :=
  D_X0_haveDivisorWith_L2 ch_fu x1 (2 : Int32) M
abbrev rm_X0_howManyFit : Room := { frames := 1, cells := 0, slots := 0, locals := 23 }
def D_X0_howManyFit_b25 (k4 : Int32 → Int32 → Int32 → ch_Mem → Option (Int32 × ch_Mem)) (x1 : Int32) (x2 : Int32) (x3 : Int32) (M : ch_Mem) : Option (Int32 × ch_Mem) :=
  k4 x1 x2 (x3 + (1 : Int32)) M
def D_X0_howManyFit_b31 (x2 : Int32) (M : ch_Mem) : Option (Int32 × ch_Mem) :=
  some (x2, M)
def D_X0_howManyFit_b4 (k4 : Int32 → Int32 → Int32 → ch_Mem → Option (Int32 × ch_Mem)) (x1 : Int32) (x2 : Int32) (x3 : Int32) (M : ch_Mem) : Option (Int32 × ch_Mem) :=
  (if (M.1 6 2) ≤ x3 then D_X0_howManyFit_b31 x2 M else ch_bd (D_X0_fits x1.toInt64 x3 M) (fun r1 M2 => (if r1 = 0 then D_X0_howManyFit_b25 k4 x1 x2 x3 M2 else D_X0_howManyFit_b25 k4 x1 (x2 + (1 : Int32)) x3 M2)))
def D_X0_howManyFit_L4  (n : Nat) : Int32 → Int32 → Int32 → ch_Mem → Option (Int32 × ch_Mem) := ch_fix (fun _ _ _ _ => none) (fun k => D_X0_howManyFit_b4  k) n
def D_X0_howManyFit (x1 : Int32) (M : ch_Mem) : Option (Int32 × ch_Mem) :=
  D_X0_howManyFit_L4 ch_fu x1 (0 : Int32) (0 : Int32) M
abbrev rm_X0_keep : Room := { frames := 0, cells := 0, slots := 0, locals := 0 }
def D_X0_keep (x1 : Int32) (x2 : Int32) (M : ch_Mem) : Option (Unit × ch_Mem) :=
  (if (5 : Int32) ≤ (M.1 6 2) then some ((), M) else ch_gd (M.1 6 2) 5 (ch_gd ((ch_wI M 38 (M.1 6 2).toNatClampNeg x1).1 6 2) 5 (some ((), ch_wI (ch_wI (ch_wI M 38 (M.1 6 2).toNatClampNeg x1) 39 ((ch_wI M 38 (M.1 6 2).toNatClampNeg x1).1 6 2).toNatClampNeg x2) 6 2 (((ch_wI (ch_wI M 38 (M.1 6 2).toNatClampNeg x1) 39 ((ch_wI M 38 (M.1 6 2).toNatClampNeg x1).1 6 2).toNatClampNeg x2).1 6 2) + (1 : Int32))))))
abbrev rm_X0_leastFitting : Room := { frames := 1, cells := 0, slots := 0, locals := 23 }
def D_X0_leastFitting_b51 (k7 : Int64 → Int64 → Int32 → ch_Mem → Option (Int64 × ch_Mem)) (x1 : Int64) (x3 : Int64) (x5 : Int32) (M : ch_Mem) : Option (Int64 × ch_Mem) :=
  ch_gd x5 5 (k7 x1 (x3 * ((M.1 38 x5.toNatClampNeg).toInt64)) (x5 + (1 : Int32)) M)
def D_X0_leastFitting_b19 (k7 : Int64 → Int64 → Int32 → ch_Mem → Option (Int64 × ch_Mem)) (k19 : Int64 → Int64 → Int32 → Int32 → ch_Mem → Option (Int64 × ch_Mem)) (x1 : Int64) (x3 : Int64) (x5 : Int32) (x6 : Int32) (M : ch_Mem) : Option (Int64 × ch_Mem) :=
  ch_gd x5 5 ((if (M.1 38 x5.toNatClampNeg) ≤ x6 then D_X0_leastFitting_b51 k7 x1 x3 x5 M else ch_bd (D_X0_fits x1 x5 M) (fun r1 M2 => (if r1 = 0 then k19 (x1 + x3) x3 x5 (x6 + (1 : Int32)) M2 else D_X0_leastFitting_b51 k7 x1 x3 x5 M2))))
def D_X0_leastFitting_L19 (k7 : Int64 → Int64 → Int32 → ch_Mem → Option (Int64 × ch_Mem)) (n : Nat) : Int64 → Int64 → Int32 → Int32 → ch_Mem → Option (Int64 × ch_Mem) := ch_fix (fun _ _ _ _ _ => none) (fun k => D_X0_leastFitting_b19 k7 k) n
def D_X0_leastFitting_b68 (x1 : Int64) (M : ch_Mem) : Option (Int64 × ch_Mem) :=
  some (x1, M)
def D_X0_leastFitting_b7 (k7 : Int64 → Int64 → Int32 → ch_Mem → Option (Int64 × ch_Mem)) (x1 : Int64) (x3 : Int64) (x5 : Int32) (M : ch_Mem) : Option (Int64 × ch_Mem) :=
  (if (M.1 6 2) ≤ x5 then D_X0_leastFitting_b68 x1 M else D_X0_leastFitting_L19 k7 ch_fu x1 x3 x5 (0 : Int32) M)
def D_X0_leastFitting_L7  (n : Nat) : Int64 → Int64 → Int32 → ch_Mem → Option (Int64 × ch_Mem) := ch_fix (fun _ _ _ _ => none) (fun k => D_X0_leastFitting_b7  k) n
def D_X0_leastFitting (M : ch_Mem) : Option (Int64 × ch_Mem) :=
  D_X0_leastFitting_L7 ch_fu (0 : Int64) (1 : Int64) (0 : Int32) M
end
section
set_option maxHeartbeats 4000000 in
set_option maxRecDepth 100000 in
theorem t_X0_fits_0 {p : Program} {l : Launch} {e : Env} {s : State} {m : MethodId} {args : Array Value} {below : List Frame} {meth : Method} {c : Code} {Q : State → Prop} {D : va_G} {I : ch_Id} {sh : Nat → Nat} {A : Nat → Prop} {oo : Int32 × ch_Mem}     (S : CallFix p m c cX0_fits 4 s args wsX0_fits RX0) (fin : ch_FinZ p l e rm_X0_fits s m args below meth c cX0_fits Q D I 40 (ch_FC I sh) sh A oo)  {x1 : Int64} {x3 : Int32}  {M : ch_Mem} {H : Heap} {locs : List Loc} {ls : Array Slot} (h : D_X0_fits x1 x3 M = some oo) (hw : ch_Wd D I 40 (ch_FC I sh) sh s A M H locs) (hl : lv_has ls 4 [(0, .ref (sh 6)), (1, .long x1), (3, .int x3)]) : W p l e rm_X0_fits s m args below meth c H locs 0 0 Q (F0 m 0 ls []) := by
  obtain ⟨hx, hb, hml, hown, hts⟩ := id S
  unfold D_X0_fits at h
  refine lv_aload_n hx hb dX0_fits_0 rfl (lv_at hl 0 rfl) ?_
  refine ch_get S hw 6 (by decide) rfl rfl (by decide +kernel) 0 (by decide) (hts (.fieldLink RX0 9 "CodeHunt$Lengths" "lengthOf" "[I") (by decide +kernel)) rfl dX0_fits_1 ?_
  refine lv_iload_n hx hb dX0_fits_4 rfl (lv_at hl 2 rfl) ?_
  refine ch_gd_k h (fun hin h => ?_)
  refine ch_iald S hw 38 (by decide) rfl hin dX0_fits_5 ?_
  refine ch_if_le (tgt := 33) hx hb dX0_fits_6 (by decide) h (fun h => ?_) (fun h => ?_)
  · refine lv_iconst (v := (0 : Int32)) hx hb dX0_fits_33 (by decide) ?_
    exact fin _ _ _ _ _ _ rfl h hw dX0_fits_34
  · refine lv_lload_n hx hb dX0_fits_9 rfl (lv_at hl 1 rfl) ?_
    refine lv_aload_n hx hb dX0_fits_10 rfl (lv_at hl 0 rfl) ?_
    refine ch_get S hw 6 (by decide) rfl rfl (by decide +kernel) 0 (by decide) (hts (.fieldLink RX0 9 "CodeHunt$Lengths" "lengthOf" "[I") (by decide +kernel)) rfl dX0_fits_11 ?_
    refine lv_iload_n hx hb dX0_fits_14 rfl (lv_at hl 2 rfl) ?_
    refine ch_gd_k h (fun hin h => ?_)
    refine ch_iald S hw 38 (by decide) rfl hin dX0_fits_15 ?_
    refine lv_i2l hx hb dX0_fits_16 rfl ?_
    refine ch_g0L_k h (fun hne h => ?_)
    refine lv_lrem hx hb dX0_fits_17 hne ?_
    refine lv_aload_n hx hb dX0_fits_18 rfl (lv_at hl 0 rfl) ?_
    refine ch_get S hw 6 (by decide) rfl rfl (by decide +kernel) 1 (by decide) (hts (.fieldLink RX0 15 "CodeHunt$Lengths" "shiftOf" "[I") (by decide +kernel)) rfl dX0_fits_19 ?_
    refine lv_iload_n hx hb dX0_fits_22 rfl (lv_at hl 2 rfl) ?_
    refine ch_gd_k h (fun hin h => ?_)
    refine ch_iald S hw 39 (by decide) rfl hin dX0_fits_23 ?_
    refine lv_i2l hx hb dX0_fits_24 rfl ?_
    refine W.lcmp hx hb dX0_fits_25 ?_
    refine ch_if_ne (tgt := 33) hx hb dX0_fits_26 (by decide) h (fun h => ?_) (fun h => ?_)
    · refine lv_iconst (v := (0 : Int32)) hx hb dX0_fits_33 (by decide) ?_
      exact fin _ _ _ _ _ _ rfl h hw dX0_fits_34
    · refine lv_iconst (v := (1 : Int32)) hx hb dX0_fits_29 (by decide) ?_
      refine lv_goto (tgt := 34) hx hb dX0_fits_30 (by decide) ?_
      exact fin _ _ _ _ _ _ rfl h hw dX0_fits_34
set_option maxHeartbeats 4000000 in
set_option maxRecDepth 100000 in
theorem c_X0_fits (l : Launch) (D : va_G) (I : ch_Id) (sh : Nat → Nat) (sz : Nat) (M : ch_Mem)  (x1 : Int64) (x3 : Int32) {r : Int32} {M1 : ch_Mem} (h : D_X0_fits x1 x3 M = some (r, M1)) : Met l yX0_fits wsX0_fits rm_X0_fits (va_Pc [.ref (sh 6), .long x1, .int x3] (ch_Pre D I 40 (ch_FC I sh) sh sz M)) (va_Qi (fun r' (u : ch_Mem) => r' = r ∧ u = M1) (ch_Pos D 40 (ch_FC I sh) sh) (ch_A 40 sh sz)) 0 0 (ch_A 40 sh sz) := by
  refine Met.ofW (cc := cX0_fits) (maxL := 4) (ret := (some .boolean)) (by decide) rfl ?_
  intro p e s m args below meth c s₁ B hml hv0
  obtain ⟨rfl, hv0⟩ := hv0
  obtain rfl : s.heap.size = sz := hv0.1
  have hw := ch_start hv0
  have S : CallFix p m c cX0_fits 4 s _ wsX0_fits RX0 := ⟨B.exec, B.bytes, hml, findClass_of_methodNamed B.named, atoms_spec (ws := wsX0_fits) B.pre⟩
  have hl := lv_entry ([.ref (sh 6), .long x1, .int x3]) (n := 4) (Nat.le_of_ble_eq_true rfl)
  rw [lg_entry_eq]
  generalize (lg_sl ([.ref (sh 6), .long x1, .int x3]) ++ List.replicate (4 - (lg_sl ([.ref (sh 6), .long x1, .int x3])).length) Slot.unset).toArray = ls at hl ⊢
  exact t_X0_fits_0 S (ch_finZ B.exec B.bytes B.returns B.notSynchronized) h hw (lv_sub hl [0, 1, 2] rfl)
set_option maxHeartbeats 4000000 in
set_option maxRecDepth 100000 in
theorem t_X0_haveDivisorWith_36 {p : Program} {l : Launch} {e : Env} {s : State} {m : MethodId} {args : Array Value} {below : List Frame} {meth : Method} {c : Code} {Q : State → Prop} {D : va_G} {I : ch_Id} {sh : Nat → Nat} {A : Nat → Prop} {oo : Int32 × ch_Mem}    {k2 : Int32 → Int32 → ch_Mem → Option (Int32 × ch_Mem)} {k9 : Int32 → Int32 → Int32 → ch_Mem → Option (Int32 × ch_Mem)} (S : CallFix p m c cX0_haveDivisorWith 4 s args wsX0_haveDivisorWith RX0) (fin : ch_FinZ p l e rm_X0_haveDivisorWith s m args below meth c cX0_haveDivisorWith Q D I 40 (ch_FC I sh) sh A oo) (hk2 : ∀ (x1 : Int32) (x2 : Int32) (M : ch_Mem) (H : Heap) (locs : List Loc) (ls : Array Slot), k2 x1 x2 M = some oo → ch_Wd D I 40 (ch_FC I sh) sh s A M H locs → lv_has ls 4 [(0, .ref (sh 6)), (1, .int x1), (2, .int x2)] → W p l e rm_X0_haveDivisorWith s m args below meth c H locs 0 0 Q (F0 m 2 ls [])) (hk9 : ∀ (x1 : Int32) (x2 : Int32) (x3 : Int32) (M : ch_Mem) (H : Heap) (locs : List Loc) (ls : Array Slot), k9 x1 x2 x3 M = some oo → ch_Wd D I 40 (ch_FC I sh) sh s A M H locs → lv_has ls 4 [(0, .ref (sh 6)), (1, .int x1), (2, .int x2), (3, .int x3)] → W p l e rm_X0_haveDivisorWith s m args below meth c H locs 0 0 Q (F0 m 9 ls [])) {x1 : Int32} {x2 : Int32} {x3 : Int32}  {M : ch_Mem} {H : Heap} {locs : List Loc} {ls : Array Slot} (h : D_X0_haveDivisorWith_b36 k2 k9 x1 x2 x3 M = some oo) (hw : ch_Wd D I 40 (ch_FC I sh) sh s A M H locs) (hl : lv_has ls 4 [(0, .ref (sh 6)), (1, .int x1), (2, .int x2), (3, .int x3)]) : W p l e rm_X0_haveDivisorWith s m args below meth c H locs 0 0 Q (F0 m 36 ls []) := by
  obtain ⟨hx, hb, hml, hown, hts⟩ := id S
  unfold D_X0_haveDivisorWith_b36 at h
  refine lv_iinc (v := x3 + (1 : Int32)) (lv' := [(3, .int (x3 + (1 : Int32))), (0, .ref (sh 6)), (1, .int x1), (2, .int x2)]) hx hb dX0_haveDivisorWith_36 hl (k := 3) rfl rfl (by decide) rfl (fun ls hl => ?_)
  refine lv_goto (tgt := 9) hx hb dX0_haveDivisorWith_39 (by decide) ?_
  exact hk9 _ _ _ _ _ _ _  h hw (lv_sub hl [1, 2, 3, 0] rfl)
set_option maxHeartbeats 4000000 in
set_option maxRecDepth 100000 in
theorem t_X0_haveDivisorWith_42 {p : Program} {l : Launch} {e : Env} {s : State} {m : MethodId} {args : Array Value} {below : List Frame} {meth : Method} {c : Code} {Q : State → Prop} {D : va_G} {I : ch_Id} {sh : Nat → Nat} {A : Nat → Prop} {oo : Int32 × ch_Mem}    {k2 : Int32 → Int32 → ch_Mem → Option (Int32 × ch_Mem)} (S : CallFix p m c cX0_haveDivisorWith 4 s args wsX0_haveDivisorWith RX0) (fin : ch_FinZ p l e rm_X0_haveDivisorWith s m args below meth c cX0_haveDivisorWith Q D I 40 (ch_FC I sh) sh A oo) (hk2 : ∀ (x1 : Int32) (x2 : Int32) (M : ch_Mem) (H : Heap) (locs : List Loc) (ls : Array Slot), k2 x1 x2 M = some oo → ch_Wd D I 40 (ch_FC I sh) sh s A M H locs → lv_has ls 4 [(0, .ref (sh 6)), (1, .int x1), (2, .int x2)] → W p l e rm_X0_haveDivisorWith s m args below meth c H locs 0 0 Q (F0 m 2 ls [])) {x1 : Int32} {x2 : Int32}  {M : ch_Mem} {H : Heap} {locs : List Loc} {ls : Array Slot} (h : D_X0_haveDivisorWith_b42 k2 x1 x2 M = some oo) (hw : ch_Wd D I 40 (ch_FC I sh) sh s A M H locs) (hl : lv_has ls 4 [(0, .ref (sh 6)), (1, .int x1), (2, .int x2)]) : W p l e rm_X0_haveDivisorWith s m args below meth c H locs 0 0 Q (F0 m 42 ls []) := by
  obtain ⟨hx, hb, hml, hown, hts⟩ := id S
  unfold D_X0_haveDivisorWith_b42 at h
  refine lv_iinc (v := x2 + (1 : Int32)) (lv' := [(2, .int (x2 + (1 : Int32))), (0, .ref (sh 6)), (1, .int x1)]) hx hb dX0_haveDivisorWith_42 hl (k := 2) rfl rfl (by decide) rfl (fun ls hl => ?_)
  refine lv_goto (tgt := 2) hx hb dX0_haveDivisorWith_45 (by decide) ?_
  exact hk2 _ _ _ _ _ _  h hw (lv_sub hl [1, 2, 0] rfl)
set_option maxHeartbeats 4000000 in
set_option maxRecDepth 100000 in
theorem t_X0_haveDivisorWith_9 {p : Program} {l : Launch} {e : Env} {s : State} {m : MethodId} {args : Array Value} {below : List Frame} {meth : Method} {c : Code} {Q : State → Prop} {D : va_G} {I : ch_Id} {sh : Nat → Nat} {A : Nat → Prop} {oo : Int32 × ch_Mem}    {k2 : Int32 → Int32 → ch_Mem → Option (Int32 × ch_Mem)} {k9 : Int32 → Int32 → Int32 → ch_Mem → Option (Int32 × ch_Mem)} (S : CallFix p m c cX0_haveDivisorWith 4 s args wsX0_haveDivisorWith RX0) (fin : ch_FinZ p l e rm_X0_haveDivisorWith s m args below meth c cX0_haveDivisorWith Q D I 40 (ch_FC I sh) sh A oo) (hk2 : ∀ (x1 : Int32) (x2 : Int32) (M : ch_Mem) (H : Heap) (locs : List Loc) (ls : Array Slot), k2 x1 x2 M = some oo → ch_Wd D I 40 (ch_FC I sh) sh s A M H locs → lv_has ls 4 [(0, .ref (sh 6)), (1, .int x1), (2, .int x2)] → W p l e rm_X0_haveDivisorWith s m args below meth c H locs 0 0 Q (F0 m 2 ls [])) (hk9 : ∀ (x1 : Int32) (x2 : Int32) (x3 : Int32) (M : ch_Mem) (H : Heap) (locs : List Loc) (ls : Array Slot), k9 x1 x2 x3 M = some oo → ch_Wd D I 40 (ch_FC I sh) sh s A M H locs → lv_has ls 4 [(0, .ref (sh 6)), (1, .int x1), (2, .int x2), (3, .int x3)] → W p l e rm_X0_haveDivisorWith s m args below meth c H locs 0 0 Q (F0 m 9 ls [])) {x1 : Int32} {x2 : Int32} {x3 : Int32}  {M : ch_Mem} {H : Heap} {locs : List Loc} {ls : Array Slot} (h : D_X0_haveDivisorWith_b9 k2 k9 x1 x2 x3 M = some oo) (hw : ch_Wd D I 40 (ch_FC I sh) sh s A M H locs) (hl : lv_has ls 4 [(0, .ref (sh 6)), (1, .int x1), (2, .int x2), (3, .int x3)]) : W p l e rm_X0_haveDivisorWith s m args below meth c H locs 0 0 Q (F0 m 9 ls []) := by
  obtain ⟨hx, hb, hml, hown, hts⟩ := id S
  unfold D_X0_haveDivisorWith_b9 at h
  refine lv_iload_n hx hb dX0_haveDivisorWith_9 rfl (lv_at hl 3 rfl) ?_
  refine lv_aload_n hx hb dX0_haveDivisorWith_10 rfl (lv_at hl 0 rfl) ?_
  refine ch_get S hw 6 (by decide) rfl rfl (by decide +kernel) 2 (by decide) (hts (.fieldLink RX0 18 "CodeHunt$Lengths" "size" "I") (by decide +kernel)) rfl dX0_haveDivisorWith_11 ?_
  refine ch_icmp_ge (tgt := 42) hx hb dX0_haveDivisorWith_14 (by decide) h (fun h => ?_) (fun h => ?_)
  · exact t_X0_haveDivisorWith_42 S fin hk2 h hw (lv_sub hl [0, 1, 2] rfl)
  · refine lv_iload_n hx hb dX0_haveDivisorWith_17 rfl (lv_at hl 1 rfl) ?_
    refine lv_iload_n hx hb dX0_haveDivisorWith_18 rfl (lv_at hl 2 rfl) ?_
    refine ch_g0_k h (fun hne h => ?_)
    refine lv_irem hx hb dX0_haveDivisorWith_19 hne ?_
    refine ch_if_ne (tgt := 36) hx hb dX0_haveDivisorWith_20 (by decide) h (fun h => ?_) (fun h => ?_)
    · exact t_X0_haveDivisorWith_36 S fin hk2 hk9 h hw (lv_sub hl [0, 1, 2, 3] rfl)
    · refine lv_aload_n hx hb dX0_haveDivisorWith_23 rfl (lv_at hl 0 rfl) ?_
      refine ch_get S hw 6 (by decide) rfl rfl (by decide +kernel) 0 (by decide) (hts (.fieldLink RX0 9 "CodeHunt$Lengths" "lengthOf" "[I") (by decide +kernel)) rfl dX0_haveDivisorWith_24 ?_
      refine lv_iload_n hx hb dX0_haveDivisorWith_27 rfl (lv_at hl 3 rfl) ?_
      refine ch_gd_k h (fun hin h => ?_)
      refine ch_iald S hw 38 (by decide) rfl hin dX0_haveDivisorWith_28 ?_
      refine lv_iload_n hx hb dX0_haveDivisorWith_29 rfl (lv_at hl 2 rfl) ?_
      refine ch_g0_k h (fun hne h => ?_)
      refine lv_irem hx hb dX0_haveDivisorWith_30 hne ?_
      refine ch_if_ne (tgt := 36) hx hb dX0_haveDivisorWith_31 (by decide) h (fun h => ?_) (fun h => ?_)
      · exact t_X0_haveDivisorWith_36 S fin hk2 hk9 h hw (lv_sub hl [0, 1, 2, 3] rfl)
      · refine lv_iconst (v := (1 : Int32)) hx hb dX0_haveDivisorWith_34 (by decide) ?_
        exact fin _ _ _ _ _ _ rfl h hw dX0_haveDivisorWith_35
set_option maxHeartbeats 4000000 in
set_option maxRecDepth 100000 in
theorem tl_X0_haveDivisorWith_9 {p : Program} {l : Launch} {e : Env} {s : State} {m : MethodId} {args : Array Value} {below : List Frame} {meth : Method} {c : Code} {Q : State → Prop} {D : va_G} {I : ch_Id} {sh : Nat → Nat} {A : Nat → Prop} {oo : Int32 × ch_Mem}    {k2 : Int32 → Int32 → ch_Mem → Option (Int32 × ch_Mem)} (S : CallFix p m c cX0_haveDivisorWith 4 s args wsX0_haveDivisorWith RX0) (fin : ch_FinZ p l e rm_X0_haveDivisorWith s m args below meth c cX0_haveDivisorWith Q D I 40 (ch_FC I sh) sh A oo) (hk2 : ∀ (x1 : Int32) (x2 : Int32) (M : ch_Mem) (H : Heap) (locs : List Loc) (ls : Array Slot), k2 x1 x2 M = some oo → ch_Wd D I 40 (ch_FC I sh) sh s A M H locs → lv_has ls 4 [(0, .ref (sh 6)), (1, .int x1), (2, .int x2)] → W p l e rm_X0_haveDivisorWith s m args below meth c H locs 0 0 Q (F0 m 2 ls [])) (n : Nat) : ∀ (x1 : Int32) (x2 : Int32) (x3 : Int32) (M : ch_Mem) (H : Heap) (locs : List Loc) (ls : Array Slot), D_X0_haveDivisorWith_L9 k2 n x1 x2 x3 M = some oo → ch_Wd D I 40 (ch_FC I sh) sh s A M H locs → lv_has ls 4 [(0, .ref (sh 6)), (1, .int x1), (2, .int x2), (3, .int x3)] → W p l e rm_X0_haveDivisorWith s m args below meth c H locs 0 0 Q (F0 m 9 ls []) := by
  induction n with
  | zero => intro x1 x2 x3 M H locs ls  h; cases h
  | succ n ih =>
    intro x1 x2 x3 M H locs ls  h hw hl
    exact t_X0_haveDivisorWith_9 S fin hk2 ih h hw hl
set_option maxHeartbeats 4000000 in
set_option maxRecDepth 100000 in
theorem t_X0_haveDivisorWith_2 {p : Program} {l : Launch} {e : Env} {s : State} {m : MethodId} {args : Array Value} {below : List Frame} {meth : Method} {c : Code} {Q : State → Prop} {D : va_G} {I : ch_Id} {sh : Nat → Nat} {A : Nat → Prop} {oo : Int32 × ch_Mem}    {k2 : Int32 → Int32 → ch_Mem → Option (Int32 × ch_Mem)} (S : CallFix p m c cX0_haveDivisorWith 4 s args wsX0_haveDivisorWith RX0) (fin : ch_FinZ p l e rm_X0_haveDivisorWith s m args below meth c cX0_haveDivisorWith Q D I 40 (ch_FC I sh) sh A oo) (hk2 : ∀ (x1 : Int32) (x2 : Int32) (M : ch_Mem) (H : Heap) (locs : List Loc) (ls : Array Slot), k2 x1 x2 M = some oo → ch_Wd D I 40 (ch_FC I sh) sh s A M H locs → lv_has ls 4 [(0, .ref (sh 6)), (1, .int x1), (2, .int x2)] → W p l e rm_X0_haveDivisorWith s m args below meth c H locs 0 0 Q (F0 m 2 ls [])) {x1 : Int32} {x2 : Int32}  {M : ch_Mem} {H : Heap} {locs : List Loc} {ls : Array Slot} (h : D_X0_haveDivisorWith_b2 k2 x1 x2 M = some oo) (hw : ch_Wd D I 40 (ch_FC I sh) sh s A M H locs) (hl : lv_has ls 4 [(0, .ref (sh 6)), (1, .int x1), (2, .int x2)]) : W p l e rm_X0_haveDivisorWith s m args below meth c H locs 0 0 Q (F0 m 2 ls []) := by
  obtain ⟨hx, hb, hml, hown, hts⟩ := id S
  unfold D_X0_haveDivisorWith_b2 at h
  refine lv_iload_n hx hb dX0_haveDivisorWith_2 rfl (lv_at hl 2 rfl) ?_
  refine lv_iload_n hx hb dX0_haveDivisorWith_3 rfl (lv_at hl 1 rfl) ?_
  refine ch_icmp_gt (tgt := 48) hx hb dX0_haveDivisorWith_4 (by decide) h (fun h => ?_) (fun h => ?_)
  · refine lv_iconst (v := (0 : Int32)) hx hb dX0_haveDivisorWith_48 (by decide) ?_
    exact fin _ _ _ _ _ _ rfl h hw dX0_haveDivisorWith_49
  · refine lv_iconst (v := (0 : Int32)) hx hb dX0_haveDivisorWith_7 (by decide) ?_
    refine lv_istore_n (lv' := [(3, .int (0 : Int32)), (0, .ref (sh 6)), (1, .int x1), (2, .int x2)]) hx hb dX0_haveDivisorWith_8 rfl hl (by decide) rfl (fun ls hl => ?_)
    exact tl_X0_haveDivisorWith_9 S fin hk2 ch_fu _ _ _ _ _ _ _ h hw (lv_sub hl [1, 2, 3, 0] rfl)
set_option maxHeartbeats 4000000 in
set_option maxRecDepth 100000 in
theorem tl_X0_haveDivisorWith_2 {p : Program} {l : Launch} {e : Env} {s : State} {m : MethodId} {args : Array Value} {below : List Frame} {meth : Method} {c : Code} {Q : State → Prop} {D : va_G} {I : ch_Id} {sh : Nat → Nat} {A : Nat → Prop} {oo : Int32 × ch_Mem}     (S : CallFix p m c cX0_haveDivisorWith 4 s args wsX0_haveDivisorWith RX0) (fin : ch_FinZ p l e rm_X0_haveDivisorWith s m args below meth c cX0_haveDivisorWith Q D I 40 (ch_FC I sh) sh A oo)  (n : Nat) : ∀ (x1 : Int32) (x2 : Int32) (M : ch_Mem) (H : Heap) (locs : List Loc) (ls : Array Slot), D_X0_haveDivisorWith_L2  n x1 x2 M = some oo → ch_Wd D I 40 (ch_FC I sh) sh s A M H locs → lv_has ls 4 [(0, .ref (sh 6)), (1, .int x1), (2, .int x2)] → W p l e rm_X0_haveDivisorWith s m args below meth c H locs 0 0 Q (F0 m 2 ls []) := by
  induction n with
  | zero => intro x1 x2 M H locs ls  h; cases h
  | succ n ih =>
    intro x1 x2 M H locs ls  h hw hl
    exact t_X0_haveDivisorWith_2 S fin ih h hw hl
set_option maxHeartbeats 4000000 in
set_option maxRecDepth 100000 in
theorem t_X0_haveDivisorWith_0 {p : Program} {l : Launch} {e : Env} {s : State} {m : MethodId} {args : Array Value} {below : List Frame} {meth : Method} {c : Code} {Q : State → Prop} {D : va_G} {I : ch_Id} {sh : Nat → Nat} {A : Nat → Prop} {oo : Int32 × ch_Mem}     (S : CallFix p m c cX0_haveDivisorWith 4 s args wsX0_haveDivisorWith RX0) (fin : ch_FinZ p l e rm_X0_haveDivisorWith s m args below meth c cX0_haveDivisorWith Q D I 40 (ch_FC I sh) sh A oo)  {x1 : Int32}  {M : ch_Mem} {H : Heap} {locs : List Loc} {ls : Array Slot} (h : D_X0_haveDivisorWith x1 M = some oo) (hw : ch_Wd D I 40 (ch_FC I sh) sh s A M H locs) (hl : lv_has ls 4 [(0, .ref (sh 6)), (1, .int x1)]) : W p l e rm_X0_haveDivisorWith s m args below meth c H locs 0 0 Q (F0 m 0 ls []) := by
  obtain ⟨hx, hb, hml, hown, hts⟩ := id S
  unfold D_X0_haveDivisorWith at h
  refine lv_iconst (v := (2 : Int32)) hx hb dX0_haveDivisorWith_0 (by decide) ?_
  refine lv_istore_n (lv' := [(2, .int (2 : Int32)), (0, .ref (sh 6)), (1, .int x1)]) hx hb dX0_haveDivisorWith_1 rfl hl (by decide) rfl (fun ls hl => ?_)
  exact tl_X0_haveDivisorWith_2 S fin ch_fu _ _ _ _ _ _ h hw (lv_sub hl [1, 2, 0] rfl)
set_option maxHeartbeats 4000000 in
set_option maxRecDepth 100000 in
theorem c_X0_haveDivisorWith (l : Launch) (D : va_G) (I : ch_Id) (sh : Nat → Nat) (sz : Nat) (M : ch_Mem)  (x1 : Int32) {r : Int32} {M1 : ch_Mem} (h : D_X0_haveDivisorWith x1 M = some (r, M1)) : Met l yX0_haveDivisorWith wsX0_haveDivisorWith rm_X0_haveDivisorWith (va_Pc [.ref (sh 6), .int x1] (ch_Pre D I 40 (ch_FC I sh) sh sz M)) (va_Qi (fun r' (u : ch_Mem) => r' = r ∧ u = M1) (ch_Pos D 40 (ch_FC I sh) sh) (ch_A 40 sh sz)) 0 0 (ch_A 40 sh sz) := by
  refine Met.ofW (cc := cX0_haveDivisorWith) (maxL := 4) (ret := (some .boolean)) (by decide) rfl ?_
  intro p e s m args below meth c s₁ B hml hv0
  obtain ⟨rfl, hv0⟩ := hv0
  obtain rfl : s.heap.size = sz := hv0.1
  have hw := ch_start hv0
  have S : CallFix p m c cX0_haveDivisorWith 4 s _ wsX0_haveDivisorWith RX0 := ⟨B.exec, B.bytes, hml, findClass_of_methodNamed B.named, atoms_spec (ws := wsX0_haveDivisorWith) B.pre⟩
  have hl := lv_entry ([.ref (sh 6), .int x1]) (n := 4) (Nat.le_of_ble_eq_true rfl)
  rw [lg_entry_eq]
  generalize (lg_sl ([.ref (sh 6), .int x1]) ++ List.replicate (4 - (lg_sl ([.ref (sh 6), .int x1])).length) Slot.unset).toArray = ls at hl ⊢
  exact t_X0_haveDivisorWith_0 S (ch_finZ B.exec B.bytes B.returns B.notSynchronized) h hw (lv_sub hl [0, 1] rfl)
set_option maxHeartbeats 4000000 in
set_option maxRecDepth 100000 in
theorem t_X0_howManyFit_25 {p : Program} {l : Launch} {e : Env} {s : State} {m : MethodId} {args : Array Value} {below : List Frame} {meth : Method} {c : Code} {Q : State → Prop} {D : va_G} {I : ch_Id} {sh : Nat → Nat} {A : Nat → Prop} {oo : Int32 × ch_Mem}    {k4 : Int32 → Int32 → Int32 → ch_Mem → Option (Int32 × ch_Mem)} (S : CallFix p m c cX0_howManyFit 4 s args wsX0_howManyFit RX0) (fin : ch_FinI p l e rm_X0_howManyFit s m args below meth c cX0_howManyFit Q D I 40 (ch_FC I sh) sh A oo) (hk4 : ∀ (x1 : Int32) (x2 : Int32) (x3 : Int32) (M : ch_Mem) (H : Heap) (locs : List Loc) (ls : Array Slot), k4 x1 x2 x3 M = some oo → ch_Wd D I 40 (ch_FC I sh) sh s A M H locs → lv_has ls 4 [(0, .ref (sh 6)), (1, .int x1), (2, .int x2), (3, .int x3)] → W p l e rm_X0_howManyFit s m args below meth c H locs 0 0 Q (F0 m 4 ls [])) {x1 : Int32} {x2 : Int32} {x3 : Int32}  {M : ch_Mem} {H : Heap} {locs : List Loc} {ls : Array Slot} (h : D_X0_howManyFit_b25 k4 x1 x2 x3 M = some oo) (hw : ch_Wd D I 40 (ch_FC I sh) sh s A M H locs) (hl : lv_has ls 4 [(0, .ref (sh 6)), (1, .int x1), (2, .int x2), (3, .int x3)]) : W p l e rm_X0_howManyFit s m args below meth c H locs 0 0 Q (F0 m 25 ls []) := by
  obtain ⟨hx, hb, hml, hown, hts⟩ := id S
  unfold D_X0_howManyFit_b25 at h
  refine lv_iinc (v := x3 + (1 : Int32)) (lv' := [(3, .int (x3 + (1 : Int32))), (0, .ref (sh 6)), (1, .int x1), (2, .int x2)]) hx hb dX0_howManyFit_25 hl (k := 3) rfl rfl (by decide) rfl (fun ls hl => ?_)
  refine lv_goto (tgt := 4) hx hb dX0_howManyFit_28 (by decide) ?_
  exact hk4 _ _ _ _ _ _ _  h hw (lv_sub hl [1, 2, 3, 0] rfl)
set_option maxHeartbeats 4000000 in
set_option maxRecDepth 100000 in
theorem t_X0_howManyFit_31 {p : Program} {l : Launch} {e : Env} {s : State} {m : MethodId} {args : Array Value} {below : List Frame} {meth : Method} {c : Code} {Q : State → Prop} {D : va_G} {I : ch_Id} {sh : Nat → Nat} {A : Nat → Prop} {oo : Int32 × ch_Mem}     (S : CallFix p m c cX0_howManyFit 4 s args wsX0_howManyFit RX0) (fin : ch_FinI p l e rm_X0_howManyFit s m args below meth c cX0_howManyFit Q D I 40 (ch_FC I sh) sh A oo)  {x2 : Int32}  {M : ch_Mem} {H : Heap} {locs : List Loc} {ls : Array Slot} (h : D_X0_howManyFit_b31 x2 M = some oo) (hw : ch_Wd D I 40 (ch_FC I sh) sh s A M H locs) (hl : lv_has ls 4 [(2, .int x2)]) : W p l e rm_X0_howManyFit s m args below meth c H locs 0 0 Q (F0 m 31 ls []) := by
  obtain ⟨hx, hb, hml, hown, hts⟩ := id S
  unfold D_X0_howManyFit_b31 at h
  refine lv_iload_n hx hb dX0_howManyFit_31 rfl (lv_at hl 0 rfl) ?_
  exact fin _ _ _ _ _ _ h hw dX0_howManyFit_32
set_option maxHeartbeats 4000000 in
set_option maxRecDepth 100000 in
theorem t_X0_howManyFit_4 {p : Program} {l : Launch} {e : Env} {s : State} {m : MethodId} {args : Array Value} {below : List Frame} {meth : Method} {c : Code} {Q : State → Prop} {D : va_G} {I : ch_Id} {sh : Nat → Nat} {A : Nat → Prop} {oo : Int32 × ch_Mem}    {k4 : Int32 → Int32 → Int32 → ch_Mem → Option (Int32 × ch_Mem)} (S : CallFix p m c cX0_howManyFit 4 s args wsX0_howManyFit RX0) (fin : ch_FinI p l e rm_X0_howManyFit s m args below meth c cX0_howManyFit Q D I 40 (ch_FC I sh) sh A oo) (hk4 : ∀ (x1 : Int32) (x2 : Int32) (x3 : Int32) (M : ch_Mem) (H : Heap) (locs : List Loc) (ls : Array Slot), k4 x1 x2 x3 M = some oo → ch_Wd D I 40 (ch_FC I sh) sh s A M H locs → lv_has ls 4 [(0, .ref (sh 6)), (1, .int x1), (2, .int x2), (3, .int x3)] → W p l e rm_X0_howManyFit s m args below meth c H locs 0 0 Q (F0 m 4 ls [])) {x1 : Int32} {x2 : Int32} {x3 : Int32}  {M : ch_Mem} {H : Heap} {locs : List Loc} {ls : Array Slot} (h : D_X0_howManyFit_b4 k4 x1 x2 x3 M = some oo) (hw : ch_Wd D I 40 (ch_FC I sh) sh s A M H locs) (hl : lv_has ls 4 [(0, .ref (sh 6)), (1, .int x1), (2, .int x2), (3, .int x3)]) : W p l e rm_X0_howManyFit s m args below meth c H locs 0 0 Q (F0 m 4 ls []) := by
  obtain ⟨hx, hb, hml, hown, hts⟩ := id S
  unfold D_X0_howManyFit_b4 at h
  refine lv_iload_n hx hb dX0_howManyFit_4 rfl (lv_at hl 3 rfl) ?_
  refine lv_aload_n hx hb dX0_howManyFit_5 rfl (lv_at hl 0 rfl) ?_
  refine ch_get S hw 6 (by decide) rfl rfl (by decide +kernel) 2 (by decide) (hts (.fieldLink RX0 18 "CodeHunt$Lengths" "size" "I") (by decide +kernel)) rfl dX0_howManyFit_6 ?_
  refine ch_icmp_ge (tgt := 31) hx hb dX0_howManyFit_9 (by decide) h (fun h => ?_) (fun h => ?_)
  · exact t_X0_howManyFit_31 S fin h hw (lv_sub hl [2] rfl)
  · refine lv_aload_n hx hb dX0_howManyFit_12 rfl (lv_at hl 0 rfl) ?_
    refine lv_iload_n hx hb dX0_howManyFit_13 rfl (lv_at hl 1 rfl) ?_
    refine lv_i2l hx hb dX0_howManyFit_14 rfl ?_
    refine lv_iload_n hx hb dX0_howManyFit_15 rfl (lv_at hl 3 rfl) ?_
    refine ch_bd_k h (fun r1 M2 hc h => ?_)
    refine ch_ci hw (va_runV (As := [.long x1.toInt64, .int x3]) (rest := []) S (c_X0_fits l D I sh H.size M x1.toInt64 x3 hc) (cwV 2 hts gX0_howManyFit_X0_fits rfl rfl rfl (by decide +kernel) ⟨Nat.le_of_ble_eq_true rfl, Nat.le_of_ble_eq_true rfl⟩) (ch_pV hw (by decide) rfl rfl rfl) rfl rfl hl.1 rfl (lv_room (Nat.le_of_ble_eq_true rfl)) dX0_howManyFit_16 ⟨Nat.le_refl 0, Nat.le_refl 0⟩) (fun H locs hw => ?_)
    refine ch_if_eq (tgt := 25) hx hb dX0_howManyFit_19 (by decide) h (fun h => ?_) (fun h => ?_)
    · exact t_X0_howManyFit_25 S fin hk4 h hw (lv_sub hl [0, 1, 2, 3] rfl)
    · refine lv_iinc (v := x2 + (1 : Int32)) (lv' := [(2, .int (x2 + (1 : Int32))), (0, .ref (sh 6)), (1, .int x1), (3, .int x3)]) hx hb dX0_howManyFit_22 hl (k := 2) rfl rfl (by decide) rfl (fun ls hl => ?_)
      exact t_X0_howManyFit_25 S fin hk4 h hw (lv_sub hl [1, 2, 0, 3] rfl)
set_option maxHeartbeats 4000000 in
set_option maxRecDepth 100000 in
theorem tl_X0_howManyFit_4 {p : Program} {l : Launch} {e : Env} {s : State} {m : MethodId} {args : Array Value} {below : List Frame} {meth : Method} {c : Code} {Q : State → Prop} {D : va_G} {I : ch_Id} {sh : Nat → Nat} {A : Nat → Prop} {oo : Int32 × ch_Mem}     (S : CallFix p m c cX0_howManyFit 4 s args wsX0_howManyFit RX0) (fin : ch_FinI p l e rm_X0_howManyFit s m args below meth c cX0_howManyFit Q D I 40 (ch_FC I sh) sh A oo)  (n : Nat) : ∀ (x1 : Int32) (x2 : Int32) (x3 : Int32) (M : ch_Mem) (H : Heap) (locs : List Loc) (ls : Array Slot), D_X0_howManyFit_L4  n x1 x2 x3 M = some oo → ch_Wd D I 40 (ch_FC I sh) sh s A M H locs → lv_has ls 4 [(0, .ref (sh 6)), (1, .int x1), (2, .int x2), (3, .int x3)] → W p l e rm_X0_howManyFit s m args below meth c H locs 0 0 Q (F0 m 4 ls []) := by
  induction n with
  | zero => intro x1 x2 x3 M H locs ls  h; cases h
  | succ n ih =>
    intro x1 x2 x3 M H locs ls  h hw hl
    exact t_X0_howManyFit_4 S fin ih h hw hl
set_option maxHeartbeats 4000000 in
set_option maxRecDepth 100000 in
theorem t_X0_howManyFit_0 {p : Program} {l : Launch} {e : Env} {s : State} {m : MethodId} {args : Array Value} {below : List Frame} {meth : Method} {c : Code} {Q : State → Prop} {D : va_G} {I : ch_Id} {sh : Nat → Nat} {A : Nat → Prop} {oo : Int32 × ch_Mem}     (S : CallFix p m c cX0_howManyFit 4 s args wsX0_howManyFit RX0) (fin : ch_FinI p l e rm_X0_howManyFit s m args below meth c cX0_howManyFit Q D I 40 (ch_FC I sh) sh A oo)  {x1 : Int32}  {M : ch_Mem} {H : Heap} {locs : List Loc} {ls : Array Slot} (h : D_X0_howManyFit x1 M = some oo) (hw : ch_Wd D I 40 (ch_FC I sh) sh s A M H locs) (hl : lv_has ls 4 [(0, .ref (sh 6)), (1, .int x1)]) : W p l e rm_X0_howManyFit s m args below meth c H locs 0 0 Q (F0 m 0 ls []) := by
  obtain ⟨hx, hb, hml, hown, hts⟩ := id S
  unfold D_X0_howManyFit at h
  refine lv_iconst (v := (0 : Int32)) hx hb dX0_howManyFit_0 (by decide) ?_
  refine lv_istore_n (lv' := [(2, .int (0 : Int32)), (0, .ref (sh 6)), (1, .int x1)]) hx hb dX0_howManyFit_1 rfl hl (by decide) rfl (fun ls hl => ?_)
  refine lv_iconst (v := (0 : Int32)) hx hb dX0_howManyFit_2 (by decide) ?_
  refine lv_istore_n (lv' := [(3, .int (0 : Int32)), (2, .int (0 : Int32)), (0, .ref (sh 6)), (1, .int x1)]) hx hb dX0_howManyFit_3 rfl hl (by decide) rfl (fun ls hl => ?_)
  exact tl_X0_howManyFit_4 S fin ch_fu _ _ _ _ _ _ _ h hw (lv_sub hl [2, 3, 1, 0] rfl)
set_option maxHeartbeats 4000000 in
set_option maxRecDepth 100000 in
theorem c_X0_howManyFit (l : Launch) (D : va_G) (I : ch_Id) (sh : Nat → Nat) (sz : Nat) (M : ch_Mem)  (x1 : Int32) {r : Int32} {M1 : ch_Mem} (h : D_X0_howManyFit x1 M = some (r, M1)) : Met l yX0_howManyFit wsX0_howManyFit rm_X0_howManyFit (va_Pc [.ref (sh 6), .int x1] (ch_Pre D I 40 (ch_FC I sh) sh sz M)) (va_Qi (fun r' (u : ch_Mem) => r' = r ∧ u = M1) (ch_Pos D 40 (ch_FC I sh) sh) (ch_A 40 sh sz)) 0 0 (ch_A 40 sh sz) := by
  refine Met.ofW (cc := cX0_howManyFit) (maxL := 4) (ret := (some .int)) (by decide) rfl ?_
  intro p e s m args below meth c s₁ B hml hv0
  obtain ⟨rfl, hv0⟩ := hv0
  obtain rfl : s.heap.size = sz := hv0.1
  have hw := ch_start hv0
  have S : CallFix p m c cX0_howManyFit 4 s _ wsX0_howManyFit RX0 := ⟨B.exec, B.bytes, hml, findClass_of_methodNamed B.named, atoms_spec (ws := wsX0_howManyFit) B.pre⟩
  have hl := lv_entry ([.ref (sh 6), .int x1]) (n := 4) (Nat.le_of_ble_eq_true rfl)
  rw [lg_entry_eq]
  generalize (lg_sl ([.ref (sh 6), .int x1]) ++ List.replicate (4 - (lg_sl ([.ref (sh 6), .int x1])).length) Slot.unset).toArray = ls at hl ⊢
  exact t_X0_howManyFit_0 S (ch_finI (B := fun _ => True) B.exec B.bytes B.returns B.notSynchronized) h hw (lv_sub hl [0, 1] rfl)
set_option maxHeartbeats 4000000 in
set_option maxRecDepth 100000 in
theorem t_X0_keep_0 {p : Program} {l : Launch} {e : Env} {s : State} {m : MethodId} {args : Array Value} {below : List Frame} {meth : Method} {c : Code} {Q : State → Prop} {D : va_G} {I : ch_Id} {sh : Nat → Nat} {A : Nat → Prop} {oo : Unit × ch_Mem}     (S : CallFix p m c cX0_keep 3 s args wsX0_keep RX0) (fin : ch_FinV p l e rm_X0_keep s m args below meth c cX0_keep Q D I 40 (ch_FC I sh) sh A oo)  {x1 : Int32} {x2 : Int32}  {M : ch_Mem} {H : Heap} {locs : List Loc} {ls : Array Slot} (h : D_X0_keep x1 x2 M = some oo) (hw : ch_Wd D I 40 (ch_FC I sh) sh s A M H locs) (hl : lv_has ls 3 [(0, .ref (sh 6)), (1, .int x1), (2, .int x2)]) : W p l e rm_X0_keep s m args below meth c H locs 0 0 Q (F0 m 0 ls []) := by
  obtain ⟨hx, hb, hml, hown, hts⟩ := id S
  unfold D_X0_keep at h
  refine lv_aload_n hx hb dX0_keep_0 rfl (lv_at hl 0 rfl) ?_
  refine ch_get S hw 6 (by decide) rfl rfl (by decide +kernel) 2 (by decide) (hts (.fieldLink RX0 18 "CodeHunt$Lengths" "size" "I") (by decide +kernel)) rfl dX0_keep_1 ?_
  refine lv_iconst (v := (5 : Int32)) hx hb dX0_keep_4 (by decide) ?_
  refine ch_icmp_ge (tgt := 38) hx hb dX0_keep_5 (by decide) h (fun h => ?_) (fun h => ?_)
  · exact fin _ _ _ _ _ h hw dX0_keep_38
  · refine lv_aload_n hx hb dX0_keep_8 rfl (lv_at hl 0 rfl) ?_
    refine ch_get S hw 6 (by decide) rfl rfl (by decide +kernel) 0 (by decide) (hts (.fieldLink RX0 9 "CodeHunt$Lengths" "lengthOf" "[I") (by decide +kernel)) rfl dX0_keep_9 ?_
    refine lv_aload_n hx hb dX0_keep_12 rfl (lv_at hl 0 rfl) ?_
    refine ch_get S hw 6 (by decide) rfl rfl (by decide +kernel) 2 (by decide) (hts (.fieldLink RX0 18 "CodeHunt$Lengths" "size" "I") (by decide +kernel)) rfl dX0_keep_13 ?_
    refine lv_iload_n hx hb dX0_keep_16 rfl (lv_at hl 1 rfl) ?_
    refine ch_gd_k h (fun hin h => ?_)
    refine ch_iast S hw 38 (by decide) (fun _ => rfl) hin dX0_keep_17 (fun H locs hw => ?_)
    refine lv_aload_n hx hb dX0_keep_18 rfl (lv_at hl 0 rfl) ?_
    refine ch_get S hw 6 (by decide) rfl rfl (by decide +kernel) 1 (by decide) (hts (.fieldLink RX0 15 "CodeHunt$Lengths" "shiftOf" "[I") (by decide +kernel)) rfl dX0_keep_19 ?_
    refine lv_aload_n hx hb dX0_keep_22 rfl (lv_at hl 0 rfl) ?_
    refine ch_get S hw 6 (by decide) rfl rfl (by decide +kernel) 2 (by decide) (hts (.fieldLink RX0 18 "CodeHunt$Lengths" "size" "I") (by decide +kernel)) rfl dX0_keep_23 ?_
    refine lv_iload_n hx hb dX0_keep_26 rfl (lv_at hl 2 rfl) ?_
    refine ch_gd_k h (fun hin h => ?_)
    refine ch_iast S hw 39 (by decide) (fun _ => rfl) hin dX0_keep_27 (fun H locs hw => ?_)
    refine lv_aload_n hx hb dX0_keep_28 rfl (lv_at hl 0 rfl) ?_
    refine lv_dup hx hb dX0_keep_29 rfl ?_
    refine ch_get S hw 6 (by decide) rfl rfl (by decide +kernel) 2 (by decide) (hts (.fieldLink RX0 18 "CodeHunt$Lengths" "size" "I") (by decide +kernel)) rfl dX0_keep_30 ?_
    refine lv_iconst (v := (1 : Int32)) hx hb dX0_keep_33 (by decide) ?_
    refine lv_iadd hx hb dX0_keep_34 ?_
    refine ch_put (M1 := ch_wI (ch_wI (ch_wI M 38 (M.1 6 2).toNatClampNeg x1) 39 ((ch_wI M 38 (M.1 6 2).toNatClampNeg x1).1 6 2).toNatClampNeg x2) 6 2 (((ch_wI (ch_wI M 38 (M.1 6 2).toNatClampNeg x1) 39 ((ch_wI M 38 (M.1 6 2).toNatClampNeg x1).1 6 2).toNatClampNeg x2).1 6 2) + (1 : Int32))) (ty := .int) S hw 6 (by decide) rfl rfl (by decide +kernel) tyX0 tyX0_ok nmX0 2 (by decide) (hts (.fieldLink RX0 18 "CodeHunt$Lengths" "size" "I") (by decide +kernel)) rfl (by decide +kernel) rfl rfl (Nat.le_of_ble_eq_true rfl) (ch_cf_wI (j := 2) (v := (((ch_wI (ch_wI M 38 (M.1 6 2).toNatClampNeg x1) 39 ((ch_wI M 38 (M.1 6 2).toNatClampNeg x1).1 6 2).toNatClampNeg x2).1 6 2) + (1 : Int32))) rfl) dX0_keep_35 (fun H locs hw => ?_)
    exact fin _ _ _ _ _ h hw dX0_keep_38
set_option maxHeartbeats 4000000 in
set_option maxRecDepth 100000 in
theorem c_X0_keep (l : Launch) (D : va_G) (I : ch_Id) (sh : Nat → Nat) (sz : Nat) (M : ch_Mem)  (x1 : Int32) (x2 : Int32) {M1 : ch_Mem} (h : D_X0_keep x1 x2 M = some ((), M1)) : Met l yX0_keep wsX0_keep rm_X0_keep (va_Pc [.ref (sh 6), .int x1, .int x2] (ch_Pre D I 40 (ch_FC I sh) sh sz M)) (va_Qv (fun (u : ch_Mem) => u = M1) (ch_Pos D 40 (ch_FC I sh) sh) (ch_A 40 sh sz)) 0 0 (ch_A 40 sh sz) := by
  refine Met.ofW (cc := cX0_keep) (maxL := 3) (ret := none) (by decide) rfl ?_
  intro p e s m args below meth c s₁ B hml hv0
  obtain ⟨rfl, hv0⟩ := hv0
  obtain rfl : s.heap.size = sz := hv0.1
  have hw := ch_start hv0
  have S : CallFix p m c cX0_keep 3 s _ wsX0_keep RX0 := ⟨B.exec, B.bytes, hml, findClass_of_methodNamed B.named, atoms_spec (ws := wsX0_keep) B.pre⟩
  have hl := lv_entry ([.ref (sh 6), .int x1, .int x2]) (n := 3) (Nat.le_of_ble_eq_true rfl)
  rw [lg_entry_eq]
  generalize (lg_sl ([.ref (sh 6), .int x1, .int x2]) ++ List.replicate (3 - (lg_sl ([.ref (sh 6), .int x1, .int x2])).length) Slot.unset).toArray = ls at hl ⊢
  exact t_X0_keep_0 S (ch_finV B.exec B.bytes B.returns B.notSynchronized) h hw (lv_sub hl [0, 1, 2] rfl)
set_option maxHeartbeats 4000000 in
set_option maxRecDepth 100000 in
theorem t_X0_leastFitting_51 {p : Program} {l : Launch} {e : Env} {s : State} {m : MethodId} {args : Array Value} {below : List Frame} {meth : Method} {c : Code} {Q : State → Prop} {D : va_G} {I : ch_Id} {sh : Nat → Nat} {A : Nat → Prop} {oo : Int64 × ch_Mem}    {k7 : Int64 → Int64 → Int32 → ch_Mem → Option (Int64 × ch_Mem)} (S : CallFix p m c cX0_leastFitting 7 s args wsX0_leastFitting RX0) (fin : ch_FinL p l e rm_X0_leastFitting s m args below meth c cX0_leastFitting Q D I 40 (ch_FC I sh) sh A oo) (hk7 : ∀ (x1 : Int64) (x3 : Int64) (x5 : Int32) (M : ch_Mem) (H : Heap) (locs : List Loc) (ls : Array Slot), k7 x1 x3 x5 M = some oo → ch_Wd D I 40 (ch_FC I sh) sh s A M H locs → lv_has ls 7 [(0, .ref (sh 6)), (1, .long x1), (3, .long x3), (5, .int x5)] → W p l e rm_X0_leastFitting s m args below meth c H locs 0 0 Q (F0 m 7 ls [])) {x1 : Int64} {x3 : Int64} {x5 : Int32}  {M : ch_Mem} {H : Heap} {locs : List Loc} {ls : Array Slot} (h : D_X0_leastFitting_b51 k7 x1 x3 x5 M = some oo) (hw : ch_Wd D I 40 (ch_FC I sh) sh s A M H locs) (hl : lv_has ls 7 [(0, .ref (sh 6)), (1, .long x1), (3, .long x3), (5, .int x5)]) : W p l e rm_X0_leastFitting s m args below meth c H locs 0 0 Q (F0 m 51 ls []) := by
  obtain ⟨hx, hb, hml, hown, hts⟩ := id S
  unfold D_X0_leastFitting_b51 at h
  refine lv_lload_n hx hb dX0_leastFitting_51 rfl (lv_at hl 2 rfl) ?_
  refine lv_aload_n hx hb dX0_leastFitting_52 rfl (lv_at hl 0 rfl) ?_
  refine ch_get S hw 6 (by decide) rfl rfl (by decide +kernel) 0 (by decide) (hts (.fieldLink RX0 9 "CodeHunt$Lengths" "lengthOf" "[I") (by decide +kernel)) rfl dX0_leastFitting_53 ?_
  refine lv_iload hx hb dX0_leastFitting_56 (lv_at hl 3 rfl) ?_
  refine ch_gd_k h (fun hin h => ?_)
  refine ch_iald S hw 38 (by decide) rfl hin dX0_leastFitting_58 ?_
  refine lv_i2l hx hb dX0_leastFitting_59 rfl ?_
  refine lv_lmul hx hb dX0_leastFitting_60 ?_
  refine lv_lstore_n (lv' := [(3, .long (x3 * ((M.1 38 x5.toNatClampNeg).toInt64))), (0, .ref (sh 6)), (1, .long x1), (5, .int x5)]) hx hb dX0_leastFitting_61 rfl hl (by decide) rfl (fun ls hl => ?_)
  refine lv_iinc (v := x5 + (1 : Int32)) (lv' := [(5, .int (x5 + (1 : Int32))), (3, .long (x3 * ((M.1 38 x5.toNatClampNeg).toInt64))), (0, .ref (sh 6)), (1, .long x1)]) hx hb dX0_leastFitting_62 hl (k := 3) rfl rfl (by decide) rfl (fun ls hl => ?_)
  refine lv_goto (tgt := 7) hx hb dX0_leastFitting_65 (by decide) ?_
  exact hk7 _ _ _ _ _ _ _  h hw (lv_sub hl [2, 3, 1, 0] rfl)
set_option maxHeartbeats 4000000 in
set_option maxRecDepth 100000 in
theorem t_X0_leastFitting_19 {p : Program} {l : Launch} {e : Env} {s : State} {m : MethodId} {args : Array Value} {below : List Frame} {meth : Method} {c : Code} {Q : State → Prop} {D : va_G} {I : ch_Id} {sh : Nat → Nat} {A : Nat → Prop} {oo : Int64 × ch_Mem}    {k7 : Int64 → Int64 → Int32 → ch_Mem → Option (Int64 × ch_Mem)} {k19 : Int64 → Int64 → Int32 → Int32 → ch_Mem → Option (Int64 × ch_Mem)} (S : CallFix p m c cX0_leastFitting 7 s args wsX0_leastFitting RX0) (fin : ch_FinL p l e rm_X0_leastFitting s m args below meth c cX0_leastFitting Q D I 40 (ch_FC I sh) sh A oo) (hk7 : ∀ (x1 : Int64) (x3 : Int64) (x5 : Int32) (M : ch_Mem) (H : Heap) (locs : List Loc) (ls : Array Slot), k7 x1 x3 x5 M = some oo → ch_Wd D I 40 (ch_FC I sh) sh s A M H locs → lv_has ls 7 [(0, .ref (sh 6)), (1, .long x1), (3, .long x3), (5, .int x5)] → W p l e rm_X0_leastFitting s m args below meth c H locs 0 0 Q (F0 m 7 ls [])) (hk19 : ∀ (x1 : Int64) (x3 : Int64) (x5 : Int32) (x6 : Int32) (M : ch_Mem) (H : Heap) (locs : List Loc) (ls : Array Slot), k19 x1 x3 x5 x6 M = some oo → ch_Wd D I 40 (ch_FC I sh) sh s A M H locs → lv_has ls 7 [(0, .ref (sh 6)), (1, .long x1), (3, .long x3), (5, .int x5), (6, .int x6)] → W p l e rm_X0_leastFitting s m args below meth c H locs 0 0 Q (F0 m 19 ls [])) {x1 : Int64} {x3 : Int64} {x5 : Int32} {x6 : Int32}  {M : ch_Mem} {H : Heap} {locs : List Loc} {ls : Array Slot} (h : D_X0_leastFitting_b19 k7 k19 x1 x3 x5 x6 M = some oo) (hw : ch_Wd D I 40 (ch_FC I sh) sh s A M H locs) (hl : lv_has ls 7 [(0, .ref (sh 6)), (1, .long x1), (3, .long x3), (5, .int x5), (6, .int x6)]) : W p l e rm_X0_leastFitting s m args below meth c H locs 0 0 Q (F0 m 19 ls []) := by
  obtain ⟨hx, hb, hml, hown, hts⟩ := id S
  unfold D_X0_leastFitting_b19 at h
  refine lv_iload hx hb dX0_leastFitting_19 (lv_at hl 4 rfl) ?_
  refine lv_aload_n hx hb dX0_leastFitting_21 rfl (lv_at hl 0 rfl) ?_
  refine ch_get S hw 6 (by decide) rfl rfl (by decide +kernel) 0 (by decide) (hts (.fieldLink RX0 9 "CodeHunt$Lengths" "lengthOf" "[I") (by decide +kernel)) rfl dX0_leastFitting_22 ?_
  refine lv_iload hx hb dX0_leastFitting_25 (lv_at hl 3 rfl) ?_
  refine ch_gd_k h (fun hin h => ?_)
  refine ch_iald S hw 38 (by decide) rfl hin dX0_leastFitting_27 ?_
  refine ch_icmp_ge (tgt := 51) hx hb dX0_leastFitting_28 (by decide) h (fun h => ?_) (fun h => ?_)
  · exact t_X0_leastFitting_51 S fin hk7 h hw (lv_sub hl [0, 1, 2, 3] rfl)
  · refine lv_aload_n hx hb dX0_leastFitting_31 rfl (lv_at hl 0 rfl) ?_
    refine lv_lload_n hx hb dX0_leastFitting_32 rfl (lv_at hl 1 rfl) ?_
    refine lv_iload hx hb dX0_leastFitting_33 (lv_at hl 3 rfl) ?_
    refine ch_bd_k h (fun r1 M2 hc h => ?_)
    refine ch_ci hw (va_runV (As := [.long x1, .int x5]) (rest := []) S (c_X0_fits l D I sh H.size M x1 x5 hc) (cwV 2 hts gX0_leastFitting_X0_fits rfl rfl rfl (by decide +kernel) ⟨Nat.le_of_ble_eq_true rfl, Nat.le_of_ble_eq_true rfl⟩) (ch_pV hw (by decide) rfl rfl rfl) rfl rfl hl.1 rfl (lv_room (Nat.le_of_ble_eq_true rfl)) dX0_leastFitting_35 ⟨Nat.le_refl 0, Nat.le_refl 0⟩) (fun H locs hw => ?_)
    refine ch_if_ne (tgt := 51) hx hb dX0_leastFitting_38 (by decide) h (fun h => ?_) (fun h => ?_)
    · exact t_X0_leastFitting_51 S fin hk7 h hw (lv_sub hl [0, 1, 2, 3] rfl)
    · refine lv_lload_n hx hb dX0_leastFitting_41 rfl (lv_at hl 1 rfl) ?_
      refine lv_lload_n hx hb dX0_leastFitting_42 rfl (lv_at hl 2 rfl) ?_
      refine lv_ladd hx hb dX0_leastFitting_43 ?_
      refine lv_lstore_n (lv' := [(1, .long (x1 + x3)), (0, .ref (sh 6)), (3, .long x3), (5, .int x5), (6, .int x6)]) hx hb dX0_leastFitting_44 rfl hl (by decide) rfl (fun ls hl => ?_)
      refine lv_iinc (v := x6 + (1 : Int32)) (lv' := [(6, .int (x6 + (1 : Int32))), (1, .long (x1 + x3)), (0, .ref (sh 6)), (3, .long x3), (5, .int x5)]) hx hb dX0_leastFitting_45 hl (k := 4) rfl rfl (by decide) rfl (fun ls hl => ?_)
      refine lv_goto (tgt := 19) hx hb dX0_leastFitting_48 (by decide) ?_
      exact hk19 _ _ _ _ _ _ _ _  h hw (lv_sub hl [2, 1, 3, 4, 0] rfl)
set_option maxHeartbeats 4000000 in
set_option maxRecDepth 100000 in
theorem tl_X0_leastFitting_19 {p : Program} {l : Launch} {e : Env} {s : State} {m : MethodId} {args : Array Value} {below : List Frame} {meth : Method} {c : Code} {Q : State → Prop} {D : va_G} {I : ch_Id} {sh : Nat → Nat} {A : Nat → Prop} {oo : Int64 × ch_Mem}    {k7 : Int64 → Int64 → Int32 → ch_Mem → Option (Int64 × ch_Mem)} (S : CallFix p m c cX0_leastFitting 7 s args wsX0_leastFitting RX0) (fin : ch_FinL p l e rm_X0_leastFitting s m args below meth c cX0_leastFitting Q D I 40 (ch_FC I sh) sh A oo) (hk7 : ∀ (x1 : Int64) (x3 : Int64) (x5 : Int32) (M : ch_Mem) (H : Heap) (locs : List Loc) (ls : Array Slot), k7 x1 x3 x5 M = some oo → ch_Wd D I 40 (ch_FC I sh) sh s A M H locs → lv_has ls 7 [(0, .ref (sh 6)), (1, .long x1), (3, .long x3), (5, .int x5)] → W p l e rm_X0_leastFitting s m args below meth c H locs 0 0 Q (F0 m 7 ls [])) (n : Nat) : ∀ (x1 : Int64) (x3 : Int64) (x5 : Int32) (x6 : Int32) (M : ch_Mem) (H : Heap) (locs : List Loc) (ls : Array Slot), D_X0_leastFitting_L19 k7 n x1 x3 x5 x6 M = some oo → ch_Wd D I 40 (ch_FC I sh) sh s A M H locs → lv_has ls 7 [(0, .ref (sh 6)), (1, .long x1), (3, .long x3), (5, .int x5), (6, .int x6)] → W p l e rm_X0_leastFitting s m args below meth c H locs 0 0 Q (F0 m 19 ls []) := by
  induction n with
  | zero => intro x1 x3 x5 x6 M H locs ls  h; cases h
  | succ n ih =>
    intro x1 x3 x5 x6 M H locs ls  h hw hl
    exact t_X0_leastFitting_19 S fin hk7 ih h hw hl
set_option maxHeartbeats 4000000 in
set_option maxRecDepth 100000 in
theorem t_X0_leastFitting_68 {p : Program} {l : Launch} {e : Env} {s : State} {m : MethodId} {args : Array Value} {below : List Frame} {meth : Method} {c : Code} {Q : State → Prop} {D : va_G} {I : ch_Id} {sh : Nat → Nat} {A : Nat → Prop} {oo : Int64 × ch_Mem}     (S : CallFix p m c cX0_leastFitting 7 s args wsX0_leastFitting RX0) (fin : ch_FinL p l e rm_X0_leastFitting s m args below meth c cX0_leastFitting Q D I 40 (ch_FC I sh) sh A oo)  {x1 : Int64}  {M : ch_Mem} {H : Heap} {locs : List Loc} {ls : Array Slot} (h : D_X0_leastFitting_b68 x1 M = some oo) (hw : ch_Wd D I 40 (ch_FC I sh) sh s A M H locs) (hl : lv_has ls 7 [(1, .long x1)]) : W p l e rm_X0_leastFitting s m args below meth c H locs 0 0 Q (F0 m 68 ls []) := by
  obtain ⟨hx, hb, hml, hown, hts⟩ := id S
  unfold D_X0_leastFitting_b68 at h
  refine lv_lload_n hx hb dX0_leastFitting_68 rfl (lv_at hl 0 rfl) ?_
  exact fin _ _ _ _ _ _ h hw dX0_leastFitting_69
set_option maxHeartbeats 4000000 in
set_option maxRecDepth 100000 in
theorem t_X0_leastFitting_7 {p : Program} {l : Launch} {e : Env} {s : State} {m : MethodId} {args : Array Value} {below : List Frame} {meth : Method} {c : Code} {Q : State → Prop} {D : va_G} {I : ch_Id} {sh : Nat → Nat} {A : Nat → Prop} {oo : Int64 × ch_Mem}    {k7 : Int64 → Int64 → Int32 → ch_Mem → Option (Int64 × ch_Mem)} (S : CallFix p m c cX0_leastFitting 7 s args wsX0_leastFitting RX0) (fin : ch_FinL p l e rm_X0_leastFitting s m args below meth c cX0_leastFitting Q D I 40 (ch_FC I sh) sh A oo) (hk7 : ∀ (x1 : Int64) (x3 : Int64) (x5 : Int32) (M : ch_Mem) (H : Heap) (locs : List Loc) (ls : Array Slot), k7 x1 x3 x5 M = some oo → ch_Wd D I 40 (ch_FC I sh) sh s A M H locs → lv_has ls 7 [(0, .ref (sh 6)), (1, .long x1), (3, .long x3), (5, .int x5)] → W p l e rm_X0_leastFitting s m args below meth c H locs 0 0 Q (F0 m 7 ls [])) {x1 : Int64} {x3 : Int64} {x5 : Int32}  {M : ch_Mem} {H : Heap} {locs : List Loc} {ls : Array Slot} (h : D_X0_leastFitting_b7 k7 x1 x3 x5 M = some oo) (hw : ch_Wd D I 40 (ch_FC I sh) sh s A M H locs) (hl : lv_has ls 7 [(0, .ref (sh 6)), (1, .long x1), (3, .long x3), (5, .int x5)]) : W p l e rm_X0_leastFitting s m args below meth c H locs 0 0 Q (F0 m 7 ls []) := by
  obtain ⟨hx, hb, hml, hown, hts⟩ := id S
  unfold D_X0_leastFitting_b7 at h
  refine lv_iload hx hb dX0_leastFitting_7 (lv_at hl 3 rfl) ?_
  refine lv_aload_n hx hb dX0_leastFitting_9 rfl (lv_at hl 0 rfl) ?_
  refine ch_get S hw 6 (by decide) rfl rfl (by decide +kernel) 2 (by decide) (hts (.fieldLink RX0 18 "CodeHunt$Lengths" "size" "I") (by decide +kernel)) rfl dX0_leastFitting_10 ?_
  refine ch_icmp_ge (tgt := 68) hx hb dX0_leastFitting_13 (by decide) h (fun h => ?_) (fun h => ?_)
  · exact t_X0_leastFitting_68 S fin h hw (lv_sub hl [1] rfl)
  · refine lv_iconst (v := (0 : Int32)) hx hb dX0_leastFitting_16 (by decide) ?_
    refine lv_istore (lv' := [(6, .int (0 : Int32)), (0, .ref (sh 6)), (1, .long x1), (3, .long x3), (5, .int x5)]) hx hb dX0_leastFitting_17 hl (by decide) rfl (fun ls hl => ?_)
    exact tl_X0_leastFitting_19 S fin hk7 ch_fu _ _ _ _ _ _ _ _ h hw (lv_sub hl [1, 2, 3, 4, 0] rfl)
set_option maxHeartbeats 4000000 in
set_option maxRecDepth 100000 in
theorem tl_X0_leastFitting_7 {p : Program} {l : Launch} {e : Env} {s : State} {m : MethodId} {args : Array Value} {below : List Frame} {meth : Method} {c : Code} {Q : State → Prop} {D : va_G} {I : ch_Id} {sh : Nat → Nat} {A : Nat → Prop} {oo : Int64 × ch_Mem}     (S : CallFix p m c cX0_leastFitting 7 s args wsX0_leastFitting RX0) (fin : ch_FinL p l e rm_X0_leastFitting s m args below meth c cX0_leastFitting Q D I 40 (ch_FC I sh) sh A oo)  (n : Nat) : ∀ (x1 : Int64) (x3 : Int64) (x5 : Int32) (M : ch_Mem) (H : Heap) (locs : List Loc) (ls : Array Slot), D_X0_leastFitting_L7  n x1 x3 x5 M = some oo → ch_Wd D I 40 (ch_FC I sh) sh s A M H locs → lv_has ls 7 [(0, .ref (sh 6)), (1, .long x1), (3, .long x3), (5, .int x5)] → W p l e rm_X0_leastFitting s m args below meth c H locs 0 0 Q (F0 m 7 ls []) := by
  induction n with
  | zero => intro x1 x3 x5 M H locs ls  h; cases h
  | succ n ih =>
    intro x1 x3 x5 M H locs ls  h hw hl
    exact t_X0_leastFitting_7 S fin ih h hw hl
set_option maxHeartbeats 4000000 in
set_option maxRecDepth 100000 in
theorem t_X0_leastFitting_0 {p : Program} {l : Launch} {e : Env} {s : State} {m : MethodId} {args : Array Value} {below : List Frame} {meth : Method} {c : Code} {Q : State → Prop} {D : va_G} {I : ch_Id} {sh : Nat → Nat} {A : Nat → Prop} {oo : Int64 × ch_Mem}     (S : CallFix p m c cX0_leastFitting 7 s args wsX0_leastFitting RX0) (fin : ch_FinL p l e rm_X0_leastFitting s m args below meth c cX0_leastFitting Q D I 40 (ch_FC I sh) sh A oo)    {M : ch_Mem} {H : Heap} {locs : List Loc} {ls : Array Slot} (h : D_X0_leastFitting  M = some oo) (hw : ch_Wd D I 40 (ch_FC I sh) sh s A M H locs) (hl : lv_has ls 7 [(0, .ref (sh 6))]) : W p l e rm_X0_leastFitting s m args below meth c H locs 0 0 Q (F0 m 0 ls []) := by
  obtain ⟨hx, hb, hml, hown, hts⟩ := id S
  unfold D_X0_leastFitting at h
  refine lv_lconst (v := (0 : Int64)) hx hb dX0_leastFitting_0 (by decide) ?_
  refine lv_lstore_n (lv' := [(1, .long (0 : Int64)), (0, .ref (sh 6))]) hx hb dX0_leastFitting_1 rfl hl (by decide) rfl (fun ls hl => ?_)
  refine lv_lconst (v := (1 : Int64)) hx hb dX0_leastFitting_2 (by decide) ?_
  refine lv_lstore_n (lv' := [(3, .long (1 : Int64)), (1, .long (0 : Int64)), (0, .ref (sh 6))]) hx hb dX0_leastFitting_3 rfl hl (by decide) rfl (fun ls hl => ?_)
  refine lv_iconst (v := (0 : Int32)) hx hb dX0_leastFitting_4 (by decide) ?_
  refine lv_istore (lv' := [(5, .int (0 : Int32)), (3, .long (1 : Int64)), (1, .long (0 : Int64)), (0, .ref (sh 6))]) hx hb dX0_leastFitting_5 hl (by decide) rfl (fun ls hl => ?_)
  exact tl_X0_leastFitting_7 S fin ch_fu _ _ _ _ _ _ _ h hw (lv_sub hl [3, 2, 1, 0] rfl)
set_option maxHeartbeats 4000000 in
set_option maxRecDepth 100000 in
theorem c_X0_leastFitting (l : Launch) (D : va_G) (I : ch_Id) (sh : Nat → Nat) (sz : Nat) (M : ch_Mem)   {r : Int64} {M1 : ch_Mem} (h : D_X0_leastFitting  M = some (r, M1)) : Met l yX0_leastFitting wsX0_leastFitting rm_X0_leastFitting (va_Pc [.ref (sh 6)] (ch_Pre D I 40 (ch_FC I sh) sh sz M)) (va_Ql (fun r' (u : ch_Mem) => r' = r ∧ u = M1) (ch_Pos D 40 (ch_FC I sh) sh) (ch_A 40 sh sz)) 0 0 (ch_A 40 sh sz) := by
  refine Met.ofW (cc := cX0_leastFitting) (maxL := 7) (ret := (some .long)) (by decide) rfl ?_
  intro p e s m args below meth c s₁ B hml hv0
  obtain ⟨rfl, hv0⟩ := hv0
  obtain rfl : s.heap.size = sz := hv0.1
  have hw := ch_start hv0
  have S : CallFix p m c cX0_leastFitting 7 s _ wsX0_leastFitting RX0 := ⟨B.exec, B.bytes, hml, findClass_of_methodNamed B.named, atoms_spec (ws := wsX0_leastFitting) B.pre⟩
  have hl := lv_entry ([.ref (sh 6)]) (n := 7) (Nat.le_of_ble_eq_true rfl)
  rw [lg_entry_eq]
  generalize (lg_sl ([.ref (sh 6)]) ++ List.replicate (7 - (lg_sl ([.ref (sh 6)])).length) Slot.unset).toArray = ls at hl ⊢
  exact t_X0_leastFitting_0 S (ch_finL B.exec B.bytes B.returns B.notSynchronized) h hw (lv_sub hl [0] rfl)
end
