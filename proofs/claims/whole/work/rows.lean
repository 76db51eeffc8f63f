section
-- ===== PART A: goes FIRST, ahead of the names: the tables' words, and 'selects' of the private methods out of them =====
/-- a private method of a class that the tables say can be made, by its rows of tables_1 -/
def lw_okq (q : MethodName × Nat) : Prop := (q.1.cls ≠ "java/lang/invoke/MethodHandle" ∧ q.1.cls ≠ "java/lang/invoke/VarHandle") ∧ Cond.instantiable q.1.cls q.2 ∈ tables_1 ∧ Cond.privateMethod q.1 ∈ tables_1 ∧ Cond.instanceMethod q.1 ∈ tables_1
theorem lw_p0 : lw_okq (⟨"EvenLines", "areTwoLines", "(II)Z"⟩, 7) := ⟨⟨by decide +kernel, by decide +kernel⟩, List.mem_of_getElem? (i := 11) (by decide +kernel), List.mem_of_getElem? (i := 145) (by decide +kernel), List.mem_of_getElem? (i := 146) (by decide +kernel)⟩
theorem lw_p1 : lw_okq (⟨"EvenLines$Sums", "setUnit", "([J)V"⟩, 5) := ⟨⟨by decide +kernel, by decide +kernel⟩, List.mem_of_getElem? (i := 39) (by decide +kernel), List.mem_of_getElem? (i := 227) (by decide +kernel), List.mem_of_getElem? (i := 228) (by decide +kernel)⟩
theorem lw_p2 : lw_okq (⟨"EvenLines$Sums", "multiply", "(LEvenLines$Table;[J[J)V"⟩, 5) := ⟨⟨by decide +kernel, by decide +kernel⟩, List.mem_of_getElem? (i := 39) (by decide +kernel), List.mem_of_getElem? (i := 231) (by decide +kernel), List.mem_of_getElem? (i := 232) (by decide +kernel)⟩
theorem lw_p3 : lw_okq (⟨"EvenLines$Sums", "rowTimesColumn", "(LEvenLines$Table;[JII)J"⟩, 5) := ⟨⟨by decide +kernel, by decide +kernel⟩, List.mem_of_getElem? (i := 39) (by decide +kernel), List.mem_of_getElem? (i := 235) (by decide +kernel), List.mem_of_getElem? (i := 236) (by decide +kernel)⟩
theorem lw_p4 : lw_okq (⟨"EvenLines$Sums", "trace", "([J)J"⟩, 5) := ⟨⟨by decide +kernel, by decide +kernel⟩, List.mem_of_getElem? (i := 39) (by decide +kernel), List.mem_of_getElem? (i := 239) (by decide +kernel), List.mem_of_getElem? (i := 240) (by decide +kernel)⟩
theorem lw_p5 : lw_okq (⟨"EvenLines$Sums", "takeFromUnits", "(J[J)V"⟩, 5) := ⟨⟨by decide +kernel, by decide +kernel⟩, List.mem_of_getElem? (i := 39) (by decide +kernel), List.mem_of_getElem? (i := 243) (by decide +kernel), List.mem_of_getElem? (i := 244) (by decide +kernel)⟩
theorem lw_p6 : lw_okq (⟨"EvenLines", "refusalOfOneMore", "()I"⟩, 7) := ⟨⟨by decide +kernel, by decide +kernel⟩, List.mem_of_getElem? (i := 11) (by decide +kernel), List.mem_of_getElem? (i := 289) (by decide +kernel), List.mem_of_getElem? (i := 290) (by decide +kernel)⟩
theorem lw_p7 : lw_okq (⟨"EvenLines$Sums", "sumWith", "(II)J"⟩, 5) := ⟨⟨by decide +kernel, by decide +kernel⟩, List.mem_of_getElem? (i := 39) (by decide +kernel), List.mem_of_getElem? (i := 297) (by decide +kernel), List.mem_of_getElem? (i := 298) (by decide +kernel)⟩
theorem lw_p8 : lw_okq (⟨"EvenLines$Sums", "bothSides", "([JI)J"⟩, 5) := ⟨⟨by decide +kernel, by decide +kernel⟩, List.mem_of_getElem? (i := 39) (by decide +kernel), List.mem_of_getElem? (i := 301) (by decide +kernel), List.mem_of_getElem? (i := 302) (by decide +kernel)⟩
theorem lw_p9 : lw_okq (⟨"EvenLines", "leastGoing", "(I)I"⟩, 7) := ⟨⟨by decide +kernel, by decide +kernel⟩, List.mem_of_getElem? (i := 11) (by decide +kernel), List.mem_of_getElem? (i := 322) (by decide +kernel), List.mem_of_getElem? (i := 323) (by decide +kernel)⟩
theorem lw_p10 : lw_okq (⟨"EvenLines$Numberings", "numberAsItIs", "(LEvenLines$Table;)I"⟩, 4) := ⟨⟨by decide +kernel, by decide +kernel⟩, List.mem_of_getElem? (i := 65) (by decide +kernel), List.mem_of_getElem? (i := 334) (by decide +kernel), List.mem_of_getElem? (i := 335) (by decide +kernel)⟩
theorem lw_p11 : lw_okq (⟨"EvenLines$Numberings", "bitsOf", "(LEvenLines$Table;I)I"⟩, 4) := ⟨⟨by decide +kernel, by decide +kernel⟩, List.mem_of_getElem? (i := 65) (by decide +kernel), List.mem_of_getElem? (i := 338) (by decide +kernel), List.mem_of_getElem? (i := 339) (by decide +kernel)⟩
theorem lw_p12 : lw_okq (⟨"EvenLines$Numberings", "lower", "(LEvenLines$Table;III)V"⟩, 4) := ⟨⟨by decide +kernel, by decide +kernel⟩, List.mem_of_getElem? (i := 65) (by decide +kernel), List.mem_of_getElem? (i := 345) (by decide +kernel), List.mem_of_getElem? (i := 346) (by decide +kernel)⟩
theorem lw_p13 : lw_okq (⟨"EvenLines$Numberings", "keep", "(LEvenLines$Table;II)V"⟩, 4) := ⟨⟨by decide +kernel, by decide +kernel⟩, List.mem_of_getElem? (i := 65) (by decide +kernel), List.mem_of_getElem? (i := 368) (by decide +kernel), List.mem_of_getElem? (i := 369) (by decide +kernel)⟩
theorem lw_p14 : lw_okq (⟨"EvenLines", "findingOf", "(I)I"⟩, 7) := ⟨⟨by decide +kernel, by decide +kernel⟩, List.mem_of_getElem? (i := 11) (by decide +kernel), List.mem_of_getElem? (i := 431) (by decide +kernel), List.mem_of_getElem? (i := 432) (by decide +kernel)⟩
theorem lw_p15 : lw_okq (⟨"EvenLinesModel", "set", "(III)V"⟩, 17) := ⟨⟨by decide +kernel, by decide +kernel⟩, List.mem_of_getElem? (i := 495) (by decide +kernel), List.mem_of_getElem? (i := 561) (by decide +kernel), List.mem_of_getElem? (i := 562) (by decide +kernel)⟩
def lw_privs_1 : List (MethodName × Nat) := [(⟨"EvenLines", "areTwoLines", "(II)Z"⟩, 7), (⟨"EvenLines$Sums", "setUnit", "([J)V"⟩, 5), (⟨"EvenLines$Sums", "multiply", "(LEvenLines$Table;[J[J)V"⟩, 5), (⟨"EvenLines$Sums", "rowTimesColumn", "(LEvenLines$Table;[JII)J"⟩, 5), (⟨"EvenLines$Sums", "trace", "([J)J"⟩, 5), (⟨"EvenLines$Sums", "takeFromUnits", "(J[J)V"⟩, 5), (⟨"EvenLines", "refusalOfOneMore", "()I"⟩, 7), (⟨"EvenLines$Sums", "sumWith", "(II)J"⟩, 5), (⟨"EvenLines$Sums", "bothSides", "([JI)J"⟩, 5), (⟨"EvenLines", "leastGoing", "(I)I"⟩, 7), (⟨"EvenLines$Numberings", "numberAsItIs", "(LEvenLines$Table;)I"⟩, 4), (⟨"EvenLines$Numberings", "bitsOf", "(LEvenLines$Table;I)I"⟩, 4), (⟨"EvenLines$Numberings", "lower", "(LEvenLines$Table;III)V"⟩, 4), (⟨"EvenLines$Numberings", "keep", "(LEvenLines$Table;II)V"⟩, 4), (⟨"EvenLines", "findingOf", "(I)I"⟩, 7), (⟨"EvenLinesModel", "set", "(III)V"⟩, 17)]
theorem lw_r1 : ∀ q ∈ lw_privs_1, lw_okq q := List.forall_mem_cons.mpr ⟨lw_p0, List.forall_mem_cons.mpr ⟨lw_p1, List.forall_mem_cons.mpr ⟨lw_p2, List.forall_mem_cons.mpr ⟨lw_p3, List.forall_mem_cons.mpr ⟨lw_p4, List.forall_mem_cons.mpr ⟨lw_p5, List.forall_mem_cons.mpr ⟨lw_p6, List.forall_mem_cons.mpr ⟨lw_p7, List.forall_mem_cons.mpr ⟨lw_p8, List.forall_mem_cons.mpr ⟨lw_p9, List.forall_mem_cons.mpr ⟨lw_p10, List.forall_mem_cons.mpr ⟨lw_p11, List.forall_mem_cons.mpr ⟨lw_p12, List.forall_mem_cons.mpr ⟨lw_p13, List.forall_mem_cons.mpr ⟨lw_p14, List.forall_mem_cons.mpr ⟨lw_p15, fun _ h => absurd h List.not_mem_nil⟩⟩⟩⟩⟩⟩⟩⟩⟩⟩⟩⟩⟩⟩⟩⟩
theorem lw_p16 : lw_okq (⟨"EvenLinesModel", "isLine", "(I)Z"⟩, 17) := ⟨⟨by decide +kernel, by decide +kernel⟩, List.mem_of_getElem? (i := 495) (by decide +kernel), List.mem_of_getElem? (i := 569) (by decide +kernel), List.mem_of_getElem? (i := 570) (by decide +kernel)⟩
theorem lw_p17 : lw_okq (⟨"EvenLinesModel", "togetherOf", "(II)I"⟩, 17) := ⟨⟨by decide +kernel, by decide +kernel⟩, List.mem_of_getElem? (i := 495) (by decide +kernel), List.mem_of_getElem? (i := 589) (by decide +kernel), List.mem_of_getElem? (i := 590) (by decide +kernel)⟩
theorem lw_p18 : lw_okq (⟨"EvenLinesModel", "isOdd", "(III)Z"⟩, 17) := ⟨⟨by decide +kernel, by decide +kernel⟩, List.mem_of_getElem? (i := 495) (by decide +kernel), List.mem_of_getElem? (i := 593) (by decide +kernel), List.mem_of_getElem? (i := 594) (by decide +kernel)⟩
theorem lw_p19 : lw_okq (⟨"EvenLinesModel", "reckon", "(II)V"⟩, 17) := ⟨⟨by decide +kernel, by decide +kernel⟩, List.mem_of_getElem? (i := 495) (by decide +kernel), List.mem_of_getElem? (i := 614) (by decide +kernel), List.mem_of_getElem? (i := 615) (by decide +kernel)⟩
theorem lw_p20 : lw_okq (⟨"EvenLinesModel", "liesAll", "(I)Z"⟩, 17) := ⟨⟨by decide +kernel, by decide +kernel⟩, List.mem_of_getElem? (i := 495) (by decide +kernel), List.mem_of_getElem? (i := 627) (by decide +kernel), List.mem_of_getElem? (i := 628) (by decide +kernel)⟩
theorem lw_p21 : lw_okq (⟨"EvenLinesModel", "rankOf", "(I)I"⟩, 17) := ⟨⟨by decide +kernel, by decide +kernel⟩, List.mem_of_getElem? (i := 495) (by decide +kernel), List.mem_of_getElem? (i := 635) (by decide +kernel), List.mem_of_getElem? (i := 636) (by decide +kernel)⟩
theorem lw_p22 : lw_okq (⟨"EvenLinesModel", "isRow", "(I)Z"⟩, 17) := ⟨⟨by decide +kernel, by decide +kernel⟩, List.mem_of_getElem? (i := 495) (by decide +kernel), List.mem_of_getElem? (i := 647) (by decide +kernel), List.mem_of_getElem? (i := 648) (by decide +kernel)⟩
theorem lw_p23 : lw_okq (⟨"EvenLinesModel", "fits", "(II)Z"⟩, 17) := ⟨⟨by decide +kernel, by decide +kernel⟩, List.mem_of_getElem? (i := 495) (by decide +kernel), List.mem_of_getElem? (i := 651) (by decide +kernel), List.mem_of_getElem? (i := 652) (by decide +kernel)⟩
theorem lw_p24 : lw_okq (⟨"EvenLinesModel", "nameOf", "(I)I"⟩, 17) := ⟨⟨by decide +kernel, by decide +kernel⟩, List.mem_of_getElem? (i := 495) (by decide +kernel), List.mem_of_getElem? (i := 671) (by decide +kernel), List.mem_of_getElem? (i := 672) (by decide +kernel)⟩
theorem lw_p25 : lw_okq (⟨"EvenLinesModel", "begin", "(I)V"⟩, 17) := ⟨⟨by decide +kernel, by decide +kernel⟩, List.mem_of_getElem? (i := 495) (by decide +kernel), List.mem_of_getElem? (i := 675) (by decide +kernel), List.mem_of_getElem? (i := 676) (by decide +kernel)⟩
theorem lw_p26 : lw_okq (⟨"EvenLinesModel", "codeOf", "(I)I"⟩, 17) := ⟨⟨by decide +kernel, by decide +kernel⟩, List.mem_of_getElem? (i := 495) (by decide +kernel), List.mem_of_getElem? (i := 679) (by decide +kernel), List.mem_of_getElem? (i := 680) (by decide +kernel)⟩
theorem lw_p27 : lw_okq (⟨"EvenLinesModel", "signBy", "(II)I"⟩, 17) := ⟨⟨by decide +kernel, by decide +kernel⟩, List.mem_of_getElem? (i := 495) (by decide +kernel), List.mem_of_getElem? (i := 683) (by decide +kernel), List.mem_of_getElem? (i := 684) (by decide +kernel)⟩
theorem lw_p28 : lw_okq (⟨"EvenLinesModel", "step", "(I)Z"⟩, 17) := ⟨⟨by decide +kernel, by decide +kernel⟩, List.mem_of_getElem? (i := 495) (by decide +kernel), List.mem_of_getElem? (i := 687) (by decide +kernel), List.mem_of_getElem? (i := 688) (by decide +kernel)⟩
theorem lw_p29 : lw_okq (⟨"EvenLinesModel", "spell", "(II)V"⟩, 17) := ⟨⟨by decide +kernel, by decide +kernel⟩, List.mem_of_getElem? (i := 495) (by decide +kernel), List.mem_of_getElem? (i := 695) (by decide +kernel), List.mem_of_getElem? (i := 696) (by decide +kernel)⟩
theorem lw_p30 : lw_okq (⟨"EvenLinesModel", "meets", "(I)I"⟩, 17) := ⟨⟨by decide +kernel, by decide +kernel⟩, List.mem_of_getElem? (i := 495) (by decide +kernel), List.mem_of_getElem? (i := 747) (by decide +kernel), List.mem_of_getElem? (i := 748) (by decide +kernel)⟩
theorem lw_p31 : lw_okq (⟨"EvenLinesModel", "lacks", "(III)I"⟩, 17) := ⟨⟨by decide +kernel, by decide +kernel⟩, List.mem_of_getElem? (i := 495) (by decide +kernel), List.mem_of_getElem? (i := 759) (by decide +kernel), List.mem_of_getElem? (i := 760) (by decide +kernel)⟩
def lw_privs_2 : List (MethodName × Nat) := [(⟨"EvenLinesModel", "isLine", "(I)Z"⟩, 17), (⟨"EvenLinesModel", "togetherOf", "(II)I"⟩, 17), (⟨"EvenLinesModel", "isOdd", "(III)Z"⟩, 17), (⟨"EvenLinesModel", "reckon", "(II)V"⟩, 17), (⟨"EvenLinesModel", "liesAll", "(I)Z"⟩, 17), (⟨"EvenLinesModel", "rankOf", "(I)I"⟩, 17), (⟨"EvenLinesModel", "isRow", "(I)Z"⟩, 17), (⟨"EvenLinesModel", "fits", "(II)Z"⟩, 17), (⟨"EvenLinesModel", "nameOf", "(I)I"⟩, 17), (⟨"EvenLinesModel", "begin", "(I)V"⟩, 17), (⟨"EvenLinesModel", "codeOf", "(I)I"⟩, 17), (⟨"EvenLinesModel", "signBy", "(II)I"⟩, 17), (⟨"EvenLinesModel", "step", "(I)Z"⟩, 17), (⟨"EvenLinesModel", "spell", "(II)V"⟩, 17), (⟨"EvenLinesModel", "meets", "(I)I"⟩, 17), (⟨"EvenLinesModel", "lacks", "(III)I"⟩, 17)]
theorem lw_r2 : ∀ q ∈ lw_privs_2, lw_okq q := List.forall_mem_cons.mpr ⟨lw_p16, List.forall_mem_cons.mpr ⟨lw_p17, List.forall_mem_cons.mpr ⟨lw_p18, List.forall_mem_cons.mpr ⟨lw_p19, List.forall_mem_cons.mpr ⟨lw_p20, List.forall_mem_cons.mpr ⟨lw_p21, List.forall_mem_cons.mpr ⟨lw_p22, List.forall_mem_cons.mpr ⟨lw_p23, List.forall_mem_cons.mpr ⟨lw_p24, List.forall_mem_cons.mpr ⟨lw_p25, List.forall_mem_cons.mpr ⟨lw_p26, List.forall_mem_cons.mpr ⟨lw_p27, List.forall_mem_cons.mpr ⟨lw_p28, List.forall_mem_cons.mpr ⟨lw_p29, List.forall_mem_cons.mpr ⟨lw_p30, List.forall_mem_cons.mpr ⟨lw_p31, fun _ h => absurd h List.not_mem_nil⟩⟩⟩⟩⟩⟩⟩⟩⟩⟩⟩⟩⟩⟩⟩⟩
def lw_privs : List (MethodName × Nat) := lw_privs_1 ++ (lw_privs_2)
def lw_tbl : List Cond := k2_sels lw_privs ++ tables_1
theorem lw_privs_ok : ∀ q ∈ lw_privs, lw_okq q := by
  show ∀ q ∈ lw_privs_1 ++ (lw_privs_2), lw_okq q
  exact List.forall_mem_append.mpr ⟨lw_r1, lw_r2⟩
def RX0 : String := "EvenLines$Numberings"
def TX0 : u_T := fun k => match k with
  | 0 => ("EvenLines$Numberings", "line", "[I", true)
  | 1 => ("EvenLines$Numberings", "wanted", "[I", true)
  | 2 => ("EvenLines$Numberings", "least", "I", false)
  | _ => ("EvenLines$Numberings", "keeping", "I", false)
def tyX0 : Nat → FieldType := fun k => match k with
  | 0 => .array .int
  | 1 => .array .int
  | 2 => .int
  | _ => .int
abbrev wsX00 : List Cond := u_ws RX0 TX0 4
theorem nmX0 : ∀ a, a < 4 → ∀ b, b < 4 → a ≠ b → (TX0 a).2.1 ≠ (TX0 b).2.1 := by decide +kernel
theorem tyX0_ok : ∀ k, k < 4 → parseFieldDescriptor (TX0 k).2.2.1 = some (tyX0 k) := by decide +kernel
abbrev cX0_init : ByteArray := prog_2_method_1_code
def yX0_init : MethodName := ⟨RX0, "<init>", "()V"⟩
abbrev cX0_least : ByteArray := prog_2_method_2_code
def yX0_least : MethodName := ⟨RX0, "least", "(LEvenLines$Table;)I"⟩
abbrev cX0_keeping : ByteArray := prog_2_method_3_code
def yX0_keeping : MethodName := ⟨RX0, "keeping", "(LEvenLines$Table;)I"⟩
abbrev cX0_numberAsItIs : ByteArray := prog_2_method_4_code
def yX0_numberAsItIs : MethodName := ⟨RX0, "numberAsItIs", "(LEvenLines$Table;)I"⟩
abbrev cX0_lower : ByteArray := prog_2_method_5_code
def yX0_lower : MethodName := ⟨RX0, "lower", "(LEvenLines$Table;III)V"⟩
abbrev cX0_keep : ByteArray := prog_2_method_6_code
def yX0_keep : MethodName := ⟨RX0, "keep", "(LEvenLines$Table;II)V"⟩
abbrev cX0_bitsOf : ByteArray := prog_2_method_7_code
def yX0_bitsOf : MethodName := ⟨RX0, "bitsOf", "(LEvenLines$Table;I)I"⟩
def RX1 : String := "EvenLines$Sheet"
def TX1 : u_T := fun k => match k with
  | 0 => ("EvenLines$Sheet", "items", "[I", true)
  | 1 => ("EvenLines$Sheet", "lost", "Z", false)
  | 2 => ("EvenLines$Sheet", "form", "I", false)
  | _ => ("EvenLines$Sheet", "size", "I", false)
def tyX1 : Nat → FieldType := fun k => match k with
  | 0 => .array .int
  | 1 => .boolean
  | 2 => .int
  | _ => .int
abbrev wsX10 : List Cond := u_ws RX1 TX1 4
theorem nmX1 : ∀ a, a < 4 → ∀ b, b < 4 → a ≠ b → (TX1 a).2.1 ≠ (TX1 b).2.1 := by decide +kernel
theorem tyX1_ok : ∀ k, k < 4 → parseFieldDescriptor (TX1 k).2.2.1 = some (tyX1 k) := by decide +kernel
abbrev cX1_init : ByteArray := prog_3_method_1_code
def yX1_init : MethodName := ⟨RX1, "<init>", "()V"⟩
abbrev cX1_start : ByteArray := prog_3_method_2_code
def yX1_start : MethodName := ⟨RX1, "start", "(II)V"⟩
abbrev cX1_hasItems : ByteArray := prog_3_method_3_code
def yX1_hasItems : MethodName := ⟨RX1, "hasItems", "(II)Z"⟩
abbrev cX1_wrongWithItem : ByteArray := prog_3_method_4_code
def yX1_wrongWithItem : MethodName := ⟨RX1, "wrongWithItem", "(II)I"⟩
abbrev cX1_setItem : ByteArray := prog_3_method_5_code
def yX1_setItem : MethodName := ⟨RX1, "setItem", "(II)V"⟩
def RX2 : String := "EvenLines$Sums"
def TX2 : u_T := fun k => match k with
  | 0 => ("EvenLines$Sums", "sum", "[J", true)
  | 1 => ("EvenLines$Sums", "rest", "[[J", true)
  | 2 => ("EvenLines$Sums", "quotient", "[J", true)
  | 3 => ("EvenLines$Sums", "size", "I", false)
  | _ => ("EvenLines$Sums", "diagonal", "I", false)
def tyX2 : Nat → FieldType := fun k => match k with
  | 0 => .array .long
  | 1 => .array (.array .long)
  | 2 => .array .long
  | 3 => .int
  | _ => .int
abbrev wsX20 : List Cond := u_ws RX2 TX2 5
theorem nmX2 : ∀ a, a < 5 → ∀ b, b < 5 → a ≠ b → (TX2 a).2.1 ≠ (TX2 b).2.1 := by decide +kernel
theorem tyX2_ok : ∀ k, k < 5 → parseFieldDescriptor (TX2 k).2.2.1 = some (tyX2 k) := by decide +kernel
abbrev cX2_init : ByteArray := prog_4_method_1_code
def yX2_init : MethodName := ⟨RX2, "<init>", "()V"⟩
abbrev cX2_take : ByteArray := prog_4_method_2_code
def yX2_take : MethodName := ⟨RX2, "take", "(LEvenLines$Table;I)V"⟩
abbrev cX2_setUnit : ByteArray := prog_4_method_3_code
def yX2_setUnit : MethodName := ⟨RX2, "setUnit", "([J)V"⟩
abbrev cX2_multiply : ByteArray := prog_4_method_4_code
def yX2_multiply : MethodName := ⟨RX2, "multiply", "(LEvenLines$Table;[J[J)V"⟩
abbrev cX2_rowTimesColumn : ByteArray := prog_4_method_5_code
def yX2_rowTimesColumn : MethodName := ⟨RX2, "rowTimesColumn", "(LEvenLines$Table;[JII)J"⟩
abbrev cX2_trace : ByteArray := prog_4_method_6_code
def yX2_trace : MethodName := ⟨RX2, "trace", "([J)J"⟩
abbrev cX2_takeFromUnits : ByteArray := prog_4_method_7_code
def yX2_takeFromUnits : MethodName := ⟨RX2, "takeFromUnits", "(J[J)V"⟩
abbrev cX2_noneBelowZero : ByteArray := prog_4_method_8_code
def yX2_noneBelowZero : MethodName := ⟨RX2, "noneBelowZero", "()Z"⟩
abbrev cX2_dimensions : ByteArray := prog_4_method_9_code
def yX2_dimensions : MethodName := ⟨RX2, "dimensions", "()I"⟩
abbrev cX2_timesOwn : ByteArray := prog_4_method_10_code
def yX2_timesOwn : MethodName := ⟨RX2, "timesOwn", "(I)I"⟩
abbrev cX2_letsIn : ByteArray := prog_4_method_11_code
def yX2_letsIn : MethodName := ⟨RX2, "letsIn", "(II)Z"⟩
abbrev cX2_sumWith : ByteArray := prog_4_method_12_code
def yX2_sumWith : MethodName := ⟨RX2, "sumWith", "(II)J"⟩
abbrev cX2_bothSides : ByteArray := prog_4_method_13_code
def yX2_bothSides : MethodName := ⟨RX2, "bothSides", "([JI)J"⟩
def RX3 : String := "EvenLines$Table"
def TX3 : u_T := fun k => match k with
  | 0 => ("EvenLines$Table", "minus", "[I", true)
  | _ => ("EvenLines$Table", "size", "I", false)
def tyX3 : Nat → FieldType := fun k => match k with
  | 0 => .array .int
  | _ => .int
abbrev wsX30 : List Cond := u_ws RX3 TX3 2
theorem nmX3 : ∀ a, a < 2 → ∀ b, b < 2 → a ≠ b → (TX3 a).2.1 ≠ (TX3 b).2.1 := by decide +kernel
theorem tyX3_ok : ∀ k, k < 2 → parseFieldDescriptor (TX3 k).2.2.1 = some (tyX3 k) := by decide +kernel
abbrev cX3_init : ByteArray := prog_5_method_1_code
def yX3_init : MethodName := ⟨RX3, "<init>", "()V"⟩
abbrev cX3_start : ByteArray := prog_5_method_2_code
def yX3_start : MethodName := ⟨RX3, "start", "(I)V"⟩
abbrev cX3_startNamed : ByteArray := prog_5_method_3_code
def yX3_startNamed : MethodName := ⟨RX3, "startNamed", "(II)V"⟩
abbrev cX3_bitOfPair : ByteArray := prog_5_method_4_code
def yX3_bitOfPair : MethodName := ⟨RX3, "bitOfPair", "(II)I"⟩
abbrev cX3_hasLine : ByteArray := prog_5_method_5_code
def yX3_hasLine : MethodName := ⟨RX3, "hasLine", "(I)Z"⟩
abbrev cX3_isRow : ByteArray := prog_5_method_6_code
def yX3_isRow : MethodName := ⟨RX3, "isRow", "(I)Z"⟩
abbrev cX3_isMinus : ByteArray := prog_5_method_7_code
def yX3_isMinus : MethodName := ⟨RX3, "isMinus", "(II)Z"⟩
abbrev cX3_entry : ByteArray := prog_5_method_8_code
def yX3_entry : MethodName := ⟨RX3, "entry", "(II)I"⟩
abbrev cX3_setMinus : ByteArray := prog_5_method_9_code
def yX3_setMinus : MethodName := ⟨RX3, "setMinus", "(IIZ)V"⟩
abbrev cX3_turnLine : ByteArray := prog_5_method_10_code
def yX3_turnLine : MethodName := ⟨RX3, "turnLine", "(I)V"⟩
abbrev cX3_swapLines : ByteArray := prog_5_method_11_code
def yX3_swapLines : MethodName := ⟨RX3, "swapLines", "(II)V"⟩
abbrev cX3_addLine : ByteArray := prog_5_method_12_code
def yX3_addLine : MethodName := ⟨RX3, "addLine", "(I)V"⟩
abbrev cX3_minusSigns : ByteArray := prog_5_method_13_code
def yX3_minusSigns : MethodName := ⟨RX3, "minusSigns", "()I"⟩
abbrev cX3_oddTriplesWith : ByteArray := prog_5_method_14_code
def yX3_oddTriplesWith : MethodName := ⟨RX3, "oddTriplesWith", "(II)I"⟩
abbrev cX3_oddTriples : ByteArray := prog_5_method_15_code
def yX3_oddTriples : MethodName := ⟨RX3, "oddTriples", "()I"⟩
def RX4 : String := "EvenLines"
def TX4 : u_T := fun k => match k with
  | 0 => ("EvenLines", "table", "LEvenLines$Table;", true)
  | 1 => ("EvenLines", "other", "LEvenLines$Table;", true)
  | 2 => ("EvenLines", "reckoned", "LEvenLines$Sums;", true)
  | 3 => ("EvenLines", "numberings", "LEvenLines$Numberings;", true)
  | 4 => ("EvenLines", "sheets", "[LEvenLines$Sheet;", true)
  | 5 => ("EvenLines", "angle", "I", false)
  | _ => ("EvenLines", "finding", "I", false)
def tyX4 : Nat → FieldType := fun k => match k with
  | 0 => .object "EvenLines$Table"
  | 1 => .object "EvenLines$Table"
  | 2 => .object "EvenLines$Sums"
  | 3 => .object "EvenLines$Numberings"
  | 4 => .array (.object "EvenLines$Sheet")
  | 5 => .int
  | _ => .int
abbrev wsX40 : List Cond := u_ws RX4 TX4 7
theorem nmX4 : ∀ a, a < 7 → ∀ b, b < 7 → a ≠ b → (TX4 a).2.1 ≠ (TX4 b).2.1 := by decide +kernel
theorem tyX4_ok : ∀ k, k < 7 → parseFieldDescriptor (TX4 k).2.2.1 = some (tyX4 k) := by decide +kernel
abbrev cX4_init : ByteArray := prog_1_method_1_code
def yX4_init : MethodName := ⟨RX4, "<init>", "()V"⟩
abbrev cX4_lines : ByteArray := prog_1_method_2_code
def yX4_lines : MethodName := ⟨RX4, "lines", "(I)I"⟩
abbrev cX4_sign : ByteArray := prog_1_method_3_code
def yX4_sign : MethodName := ⟨RX4, "sign", "(III)I"⟩
abbrev cX4_at : ByteArray := prog_1_method_4_code
def yX4_at : MethodName := ⟨RX4, "at", "(II)I"⟩
abbrev cX4_turn : ByteArray := prog_1_method_5_code
def yX4_turn : MethodName := ⟨RX4, "turn", "(I)I"⟩
abbrev cX4_change : ByteArray := prog_1_method_6_code
def yX4_change : MethodName := ⟨RX4, "change", "(II)I"⟩
abbrev cX4_odd : ByteArray := prog_1_method_7_code
def yX4_odd : MethodName := ⟨RX4, "odd", "()I"⟩
abbrev cX4_together : ByteArray := prog_1_method_8_code
def yX4_together : MethodName := ⟨RX4, "together", "(II)I"⟩
abbrev cX4_regular : ByteArray := prog_1_method_9_code
def yX4_regular : MethodName := ⟨RX4, "regular", "()I"⟩
abbrev cX4_areTwoLines : ByteArray := prog_1_method_10_code
def yX4_areTwoLines : MethodName := ⟨RX4, "areTwoLines", "(II)Z"⟩
abbrev cX4_isLineCount : ByteArray := prog_1_method_11_code
def yX4_isLineCount : MethodName := ⟨RX4, "isLineCount", "(I)Z"⟩
abbrev cX4_angle : ByteArray := prog_1_method_12_code
def yX4_angle : MethodName := ⟨RX4, "angle", "(I)I"⟩
abbrev cX4_sums : ByteArray := prog_1_method_13_code
def yX4_sums : MethodName := ⟨RX4, "sums", "(II)J"⟩
abbrev cX4_own : ByteArray := prog_1_method_14_code
def yX4_own : MethodName := ⟨RX4, "own", "(I)I"⟩
abbrev cX4_lies : ByteArray := prog_1_method_15_code
def yX4_lies : MethodName := ⟨RX4, "lies", "()I"⟩
abbrev cX4_rank : ByteArray := prog_1_method_16_code
def yX4_rank : MethodName := ⟨RX4, "rank", "()I"⟩
abbrev cX4_bound : ByteArray := prog_1_method_17_code
def yX4_bound : MethodName := ⟨RX4, "bound", "(I)I"⟩
abbrev cX4_isDimension : ByteArray := prog_1_method_18_code
def yX4_isDimension : MethodName := ⟨RX4, "isDimension", "(I)Z"⟩
abbrev cX4_goes : ByteArray := prog_1_method_19_code
def yX4_goes : MethodName := ⟨RX4, "goes", "(II)I"⟩
abbrev cX4_ways : ByteArray := prog_1_method_20_code
def yX4_ways : MethodName := ⟨RX4, "ways", "(I)I"⟩
abbrev cX4_put : ByteArray := prog_1_method_21_code
def yX4_put : MethodName := ⟨RX4, "put", "(I)I"⟩
abbrev cX4_grow : ByteArray := prog_1_method_22_code
def yX4_grow : MethodName := ⟨RX4, "grow", "(I)I"⟩
abbrev cX4_refusalOfOneMore : ByteArray := prog_1_method_23_code
def yX4_refusalOfOneMore : MethodName := ⟨RX4, "refusalOfOneMore", "()I"⟩
abbrev cX4_leastGoing : ByteArray := prog_1_method_24_code
def yX4_leastGoing : MethodName := ⟨RX4, "leastGoing", "(I)I"⟩
abbrev cX4_name : ByteArray := prog_1_method_25_code
def yX4_name : MethodName := ⟨RX4, "name", "()I"⟩
abbrev cX4_plain : ByteArray := prog_1_method_26_code
def yX4_plain : MethodName := ⟨RX4, "plain", "()I"⟩
abbrev cX4_group : ByteArray := prog_1_method_27_code
def yX4_group : MethodName := ⟨RX4, "group", "()I"⟩
abbrev cX4_kinds : ByteArray := prog_1_method_28_code
def yX4_kinds : MethodName := ⟨RX4, "kinds", "(I)I"⟩
abbrev cX4_hits : ByteArray := prog_1_method_29_code
def yX4_hits : MethodName := ⟨RX4, "hits", "(III)I"⟩
abbrev cX4_even : ByteArray := prog_1_method_30_code
def yX4_even : MethodName := ⟨RX4, "even", "(II)I"⟩
abbrev cX4_welch : ByteArray := prog_1_method_31_code
def yX4_welch : MethodName := ⟨RX4, "welch", "(II)I"⟩
abbrev cX4_multipliers : ByteArray := prog_1_method_32_code
def yX4_multipliers : MethodName := ⟨RX4, "multipliers", "(II)I"⟩
abbrev cX4_find : ByteArray := prog_1_method_33_code
def yX4_find : MethodName := ⟨RX4, "find", "(II)I"⟩
abbrev cX4_isRound : ByteArray := prog_1_method_34_code
def yX4_isRound : MethodName := ⟨RX4, "isRound", "(I)Z"⟩
abbrev cX4_isSet : ByteArray := prog_1_method_35_code
def yX4_isSet : MethodName := ⟨RX4, "isSet", "(II)Z"⟩
abbrev cX4_allOfRound : ByteArray := prog_1_method_36_code
def yX4_allOfRound : MethodName := ⟨RX4, "allOfRound", "(I)I"⟩
abbrev cX4_movedRound : ByteArray := prog_1_method_37_code
def yX4_movedRound : MethodName := ⟨RX4, "movedRound", "(III)I"⟩
abbrev cX4_hitsOfStep : ByteArray := prog_1_method_38_code
def yX4_hitsOfStep : MethodName := ⟨RX4, "hitsOfStep", "(III)I"⟩
abbrev cX4_evenHits : ByteArray := prog_1_method_39_code
def yX4_evenHits : MethodName := ⟨RX4, "evenHits", "(II)I"⟩
abbrev cX4_multiplied : ByteArray := prog_1_method_40_code
def yX4_multiplied : MethodName := ⟨RX4, "multiplied", "(III)I"⟩
abbrev cX4_isMovedRound : ByteArray := prog_1_method_41_code
def yX4_isMovedRound : MethodName := ⟨RX4, "isMovedRound", "(III)Z"⟩
abbrev cX4_sheet : ByteArray := prog_1_method_42_code
def yX4_sheet : MethodName := ⟨RX4, "sheet", "(III)I"⟩
abbrev cX4_lose : ByteArray := prog_1_method_43_code
def yX4_lose : MethodName := ⟨RX4, "lose", "(I)I"⟩
abbrev cX4_lay : ByteArray := prog_1_method_44_code
def yX4_lay : MethodName := ⟨RX4, "lay", "(IIII)I"⟩
abbrev cX4_get : ByteArray := prog_1_method_45_code
def yX4_get : MethodName := ⟨RX4, "get", "(III)I"⟩
abbrev cX4_copy : ByteArray := prog_1_method_46_code
def yX4_copy : MethodName := ⟨RX4, "copy", "(IIIII)I"⟩
abbrev cX4_load : ByteArray := prog_1_method_47_code
def yX4_load : MethodName := ⟨RX4, "load", "(II)I"⟩
abbrev cX4_write : ByteArray := prog_1_method_48_code
def yX4_write : MethodName := ⟨RX4, "write", "(I)I"⟩
abbrev cX4_count : ByteArray := prog_1_method_49_code
def yX4_count : MethodName := ⟨RX4, "count", "(I)I"⟩
abbrev cX4_digest : ByteArray := prog_1_method_50_code
def yX4_digest : MethodName := ⟨RX4, "digest", "()J"⟩
abbrev cX4_isSheet : ByteArray := prog_1_method_51_code
def yX4_isSheet : MethodName := ⟨RX4, "isSheet", "(I)Z"⟩
abbrev cX4_isForm : ByteArray := prog_1_method_52_code
def yX4_isForm : MethodName := ⟨RX4, "isForm", "(I)Z"⟩
abbrev cX4_findingOf : ByteArray := prog_1_method_53_code
def yX4_findingOf : MethodName := ⟨RX4, "findingOf", "(I)I"⟩
def RX5 : String := "EvenLinesModel"
def TX5 : u_T := fun k => match k with
  | 0 => ("EvenLinesModel", "many", "I", false)
  | 1 => ("EvenLinesModel", "table", "[I", true)
  | 2 => ("EvenLinesModel", "angle", "I", false)
  | 3 => ("EvenLinesModel", "matrix", "[J", true)
  | 4 => ("EvenLinesModel", "power", "[J", true)
  | 5 => ("EvenLinesModel", "next", "[J", true)
  | 6 => ("EvenLinesModel", "traces", "[J", true)
  | 7 => ("EvenLinesModel", "es", "[J", true)
  | 8 => ("EvenLinesModel", "rests", "[J", true)
  | 9 => ("EvenLinesModel", "order", "[I", true)
  | 10 => ("EvenLinesModel", "saved", "[I", true)
  | 11 => ("EvenLinesModel", "isThere", "[Z", true)
  | 12 => ("EvenLinesModel", "forms", "[I", true)
  | 13 => ("EvenLinesModel", "sizes", "[I", true)
  | 14 => ("EvenLinesModel", "items", "[I", true)
  | 15 => ("EvenLinesModel", "moved", "[I", true)
  | _ => ("EvenLinesModel", "finding", "I", false)
def tyX5 : Nat → FieldType := fun k => match k with
  | 0 => .int
  | 1 => .array .int
  | 2 => .int
  | 3 => .array .long
  | 4 => .array .long
  | 5 => .array .long
  | 6 => .array .long
  | 7 => .array .long
  | 8 => .array .long
  | 9 => .array .int
  | 10 => .array .int
  | 11 => .array .boolean
  | 12 => .array .int
  | 13 => .array .int
  | 14 => .array .int
  | 15 => .array .int
  | _ => .int
abbrev wsX50 : List Cond := u_ws RX5 TX5 17
theorem nmX5 : ∀ a, a < 17 → ∀ b, b < 17 → a ≠ b → (TX5 a).2.1 ≠ (TX5 b).2.1 := by decide +kernel
theorem tyX5_ok : ∀ k, k < 17 → parseFieldDescriptor (TX5 k).2.2.1 = some (tyX5 k) := by decide +kernel
abbrev cX5_init : ByteArray := prog_7_method_1_code
def yX5_init : MethodName := ⟨RX5, "<init>", "()V"⟩
abbrev cX5_in : ByteArray := prog_7_method_3_code
def yX5_in : MethodName := ⟨RX5, "in", "(III)Z"⟩
abbrev cX5_isLine : ByteArray := prog_7_method_4_code
def yX5_isLine : MethodName := ⟨RX5, "isLine", "(I)Z"⟩
abbrev cX5_set : ByteArray := prog_7_method_5_code
def yX5_set : MethodName := ⟨RX5, "set", "(III)V"⟩
abbrev cX5_lines : ByteArray := prog_7_method_6_code
def yX5_lines : MethodName := ⟨RX5, "lines", "(I)I"⟩
abbrev cX5_sign : ByteArray := prog_7_method_7_code
def yX5_sign : MethodName := ⟨RX5, "sign", "(III)I"⟩
abbrev cX5_at : ByteArray := prog_7_method_8_code
def yX5_at : MethodName := ⟨RX5, "at", "(II)I"⟩
abbrev cX5_turn : ByteArray := prog_7_method_9_code
def yX5_turn : MethodName := ⟨RX5, "turn", "(I)I"⟩
abbrev cX5_change : ByteArray := prog_7_method_10_code
def yX5_change : MethodName := ⟨RX5, "change", "(II)I"⟩
abbrev cX5_isOdd : ByteArray := prog_7_method_11_code
def yX5_isOdd : MethodName := ⟨RX5, "isOdd", "(III)Z"⟩
abbrev cX5_togetherOf : ByteArray := prog_7_method_12_code
def yX5_togetherOf : MethodName := ⟨RX5, "togetherOf", "(II)I"⟩
abbrev cX5_odd : ByteArray := prog_7_method_13_code
def yX5_odd : MethodName := ⟨RX5, "odd", "()I"⟩
abbrev cX5_together : ByteArray := prog_7_method_14_code
def yX5_together : MethodName := ⟨RX5, "together", "(II)I"⟩
abbrev cX5_regular : ByteArray := prog_7_method_15_code
def yX5_regular : MethodName := ⟨RX5, "regular", "()I"⟩
abbrev cX5_angle : ByteArray := prog_7_method_16_code
def yX5_angle : MethodName := ⟨RX5, "angle", "(I)I"⟩
abbrev cX5_reckon : ByteArray := prog_7_method_17_code
def yX5_reckon : MethodName := ⟨RX5, "reckon", "(II)V"⟩
abbrev cX5_sums : ByteArray := prog_7_method_18_code
def yX5_sums : MethodName := ⟨RX5, "sums", "(II)J"⟩
abbrev cX5_own : ByteArray := prog_7_method_19_code
def yX5_own : MethodName := ⟨RX5, "own", "(I)I"⟩
abbrev cX5_liesAll : ByteArray := prog_7_method_20_code
def yX5_liesAll : MethodName := ⟨RX5, "liesAll", "(I)Z"⟩
abbrev cX5_rankOf : ByteArray := prog_7_method_21_code
def yX5_rankOf : MethodName := ⟨RX5, "rankOf", "(I)I"⟩
abbrev cX5_lies : ByteArray := prog_7_method_22_code
def yX5_lies : MethodName := ⟨RX5, "lies", "()I"⟩
abbrev cX5_rank : ByteArray := prog_7_method_23_code
def yX5_rank : MethodName := ⟨RX5, "rank", "()I"⟩
abbrev cX5_bound : ByteArray := prog_7_method_24_code
def yX5_bound : MethodName := ⟨RX5, "bound", "(I)I"⟩
abbrev cX5_isRow : ByteArray := prog_7_method_25_code
def yX5_isRow : MethodName := ⟨RX5, "isRow", "(I)Z"⟩
abbrev cX5_fits : ByteArray := prog_7_method_26_code
def yX5_fits : MethodName := ⟨RX5, "fits", "(II)Z"⟩
abbrev cX5_goes : ByteArray := prog_7_method_27_code
def yX5_goes : MethodName := ⟨RX5, "goes", "(II)I"⟩
abbrev cX5_ways : ByteArray := prog_7_method_28_code
def yX5_ways : MethodName := ⟨RX5, "ways", "(I)I"⟩
abbrev cX5_put : ByteArray := prog_7_method_29_code
def yX5_put : MethodName := ⟨RX5, "put", "(I)I"⟩
abbrev cX5_grow : ByteArray := prog_7_method_30_code
def yX5_grow : MethodName := ⟨RX5, "grow", "(I)I"⟩
abbrev cX5_signBy : ByteArray := prog_7_method_31_code
def yX5_signBy : MethodName := ⟨RX5, "signBy", "(II)I"⟩
abbrev cX5_codeOf : ByteArray := prog_7_method_32_code
def yX5_codeOf : MethodName := ⟨RX5, "codeOf", "(I)I"⟩
abbrev cX5_begin : ByteArray := prog_7_method_33_code
def yX5_begin : MethodName := ⟨RX5, "begin", "(I)V"⟩
abbrev cX5_step : ByteArray := prog_7_method_34_code
def yX5_step : MethodName := ⟨RX5, "step", "(I)Z"⟩
abbrev cX5_nameOf : ByteArray := prog_7_method_35_code
def yX5_nameOf : MethodName := ⟨RX5, "nameOf", "(I)I"⟩
abbrev cX5_name : ByteArray := prog_7_method_36_code
def yX5_name : MethodName := ⟨RX5, "name", "()I"⟩
abbrev cX5_spell : ByteArray := prog_7_method_37_code
def yX5_spell : MethodName := ⟨RX5, "spell", "(II)V"⟩
abbrev cX5_plain : ByteArray := prog_7_method_38_code
def yX5_plain : MethodName := ⟨RX5, "plain", "()I"⟩
abbrev cX5_group : ByteArray := prog_7_method_39_code
def yX5_group : MethodName := ⟨RX5, "group", "()I"⟩
abbrev cX5_kinds : ByteArray := prog_7_method_40_code
def yX5_kinds : MethodName := ⟨RX5, "kinds", "(I)I"⟩
abbrev cX5_isSet : ByteArray := prog_7_method_41_code
def yX5_isSet : MethodName := ⟨RX5, "isSet", "(II)Z"⟩
abbrev cX5_hitsOf : ByteArray := prog_7_method_42_code
def yX5_hitsOf : MethodName := ⟨RX5, "hitsOf", "(III)I"⟩
abbrev cX5_hits : ByteArray := prog_7_method_43_code
def yX5_hits : MethodName := ⟨RX5, "hits", "(III)I"⟩
abbrev cX5_evenOf : ByteArray := prog_7_method_44_code
def yX5_evenOf : MethodName := ⟨RX5, "evenOf", "(II)I"⟩
abbrev cX5_even : ByteArray := prog_7_method_45_code
def yX5_even : MethodName := ⟨RX5, "even", "(II)I"⟩
abbrev cX5_welch : ByteArray := prog_7_method_46_code
def yX5_welch : MethodName := ⟨RX5, "welch", "(II)I"⟩
abbrev cX5_divisor : ByteArray := prog_7_method_47_code
def yX5_divisor : MethodName := ⟨RX5, "divisor", "(II)I"⟩
abbrev cX5_multipliers : ByteArray := prog_7_method_48_code
def yX5_multipliers : MethodName := ⟨RX5, "multipliers", "(II)I"⟩
abbrev cX5_find : ByteArray := prog_7_method_49_code
def yX5_find : MethodName := ⟨RX5, "find", "(II)I"⟩
abbrev cX5_meets : ByteArray := prog_7_method_50_code
def yX5_meets : MethodName := ⟨RX5, "meets", "(I)I"⟩
abbrev cX5_isSheet : ByteArray := prog_7_method_51_code
def yX5_isSheet : MethodName := ⟨RX5, "isSheet", "(I)Z"⟩
abbrev cX5_sheet : ByteArray := prog_7_method_52_code
def yX5_sheet : MethodName := ⟨RX5, "sheet", "(III)I"⟩
abbrev cX5_lose : ByteArray := prog_7_method_53_code
def yX5_lose : MethodName := ⟨RX5, "lose", "(I)I"⟩
abbrev cX5_lacks : ByteArray := prog_7_method_54_code
def yX5_lacks : MethodName := ⟨RX5, "lacks", "(III)I"⟩
abbrev cX5_lay : ByteArray := prog_7_method_55_code
def yX5_lay : MethodName := ⟨RX5, "lay", "(IIII)I"⟩
abbrev cX5_get : ByteArray := prog_7_method_56_code
def yX5_get : MethodName := ⟨RX5, "get", "(III)I"⟩
abbrev cX5_copy : ByteArray := prog_7_method_57_code
def yX5_copy : MethodName := ⟨RX5, "copy", "(IIIII)I"⟩
abbrev cX5_load : ByteArray := prog_7_method_58_code
def yX5_load : MethodName := ⟨RX5, "load", "(II)I"⟩
abbrev cX5_write : ByteArray := prog_7_method_59_code
def yX5_write : MethodName := ⟨RX5, "write", "(I)I"⟩
abbrev cX5_count : ByteArray := prog_7_method_60_code
def yX5_count : MethodName := ⟨RX5, "count", "(I)I"⟩
abbrev cX5_digest : ByteArray := prog_7_method_61_code
def yX5_digest : MethodName := ⟨RX5, "digest", "()J"⟩
def RJ6 : String := "java/lang/Integer"
def TJ6 : u_T := fun k => match k with
  | _ => ("", "", "", false)
def tyJ6 : Nat → FieldType := fun k => match k with
  | _ => .int
abbrev wsJ60 : List Cond := u_ws RJ6 TJ6 0
theorem nmJ6 : ∀ a, a < 0 → ∀ b, b < 0 → a ≠ b → (TJ6 a).2.1 ≠ (TJ6 b).2.1 := by decide +kernel
theorem tyJ6_ok : ∀ k, k < 0 → parseFieldDescriptor (TJ6 k).2.2.1 = some (tyJ6 k) := by decide +kernel
abbrev cJ6_bitCount_0f7a4 : ByteArray := prog_8_method_49_code
def yJ6_bitCount_0f7a4 : MethodName := ⟨RJ6, "bitCount", "(I)I"⟩
def RJ9 : String := "java/lang/Math"
def TJ9 : u_T := fun k => match k with
  | _ => ("", "", "", false)
def tyJ9 : Nat → FieldType := fun k => match k with
  | _ => .int
abbrev wsJ90 : List Cond := u_ws RJ9 TJ9 0
theorem nmJ9 : ∀ a, a < 0 → ∀ b, b < 0 → a ≠ b → (TJ9 a).2.1 ≠ (TJ9 b).2.1 := by decide +kernel
theorem tyJ9_ok : ∀ k, k < 0 → parseFieldDescriptor (TJ9 k).2.2.1 = some (tyJ9 k) := by decide +kernel
abbrev cJ9_min_7cf53 : ByteArray := prog_9_method_69_code
def yJ9_min_7cf53 : MethodName := ⟨RJ9, "min", "(II)I"⟩
def RJ10 : String := "java/lang/System"
def TJ10 : u_T := fun k => match k with
  | _ => ("", "", "", false)
def tyJ10 : Nat → FieldType := fun k => match k with
  | _ => .int
abbrev wsJ100 : List Cond := u_ws RJ10 TJ10 0
theorem nmJ10 : ∀ a, a < 0 → ∀ b, b < 0 → a ≠ b → (TJ10 a).2.1 ≠ (TJ10 b).2.1 := by decide +kernel
theorem tyJ10_ok : ∀ k, k < 0 → parseFieldDescriptor (TJ10 k).2.2.1 = some (tyJ10 k) := by decide +kernel
def RL : String := "EvenLinesLaw"
abbrev cL_law : ByteArray := code
def yL_law : MethodName := ⟨RL, "law", "([I)Z"⟩
abbrev vwCl : List vw_C := [(RX0, TX0, 4), (RX1, TX1, 4), (RX2, TX2, 5), (RX3, TX3, 2), (RX4, TX4, 7), (RX5, TX5, 17)]
end
section

def lw_g : List Cond := lw_tbl.filter goodWord
theorem lw_gm {i : Nat} {w : Cond} (h : lw_tbl[i]? = some w) (g : goodWord w = true) : w ∈ lw_g := List.mem_filter.mpr ⟨List.mem_of_getElem? h, g⟩
abbrev Cl : Type := (Nat × vp_A) ⊕ (Nat × List Value)
abbrev Hp : Type := Nat → Cl
def cvV (ad : Nat → Nat) (v : Value) : Value := match v with
  | .ref k => .ref (ad k)
  | v => v
def cvA (ad : Nat → Nat) (a : vp_A) : vp_A := match a with
  | (n, .inr (.inr (.inr (.inr f)))) => (n, .inr (.inr (.inr (.inr (fun i => (f i).map ad)))))
  | a => a
def cvE (ad : Nat → Nat) (cA : Nat → ClassId) (c : Cl) : va_E := match c with
  | .inl (t, a) => .inl (cA t, cvA ad a)
  | .inr (ci, fs) => .inr (ci, fs.map (cvV ad))
def cvL (ad : Nat → Nat) (lv : List (Nat × Value)) : List (Nat × Value) := lv.map (fun q => (q.1, cvV ad q.2))
def wl (ad : Nat → Nat) (cA : Nat → ClassId) (h : Hp) : va_W := (List.range 47).map (fun k => (ad k, cvE ad cA (h k)))
theorem wl_at {ad : Nat → Nat} {cA : Nat → ClassId} {h : Hp} {k : Nat} (hk : k < 47) : (wl ad cA h)[k]? = some (ad k, cvE ad cA (h k)) := by
  simp [wl, hk]
def hu (h : Hp) (k : Nat) (c : Cl) : Hp := fun j => if j = k then c else h j
theorem hu_s {h : Hp} {k : Nat} {c : Cl} : hu h k c k = c := by simp [hu]
theorem hu_n {h : Hp} {k j : Nat} {c : Cl} (hj : j ≠ k) : hu h k c j = h j := by simp [hu, hj]
theorem wl_set {ad : Nat → Nat} {cA : Nat → ClassId} {h : Hp} {k : Nat} {c : Cl} : (wl ad cA h).set k (ad k, cvE ad cA c) = wl ad cA (hu h k c) := by
  apply List.ext_getElem?
  intro i
  rw [List.getElem?_set]
  by_cases hi : i < 47
  · rw [wl_at hi, wl_at hi]
    by_cases e : k = i
    · subst e
      have : k < (wl ad cA h).length := by simp [wl, hi]
      simp [this, hu]
    · have e' : i ≠ k := fun q => e q.symm
      simp [e, hu, e']
  · have h1 : (wl ad cA h)[i]? = none := by simp [wl]; omega
    have h2 : (wl ad cA (hu h k c))[i]? = none := by simp [wl]; omega
    rw [h1, h2]
    by_cases e : k = i
    · subst e
      have : ¬ k < (wl ad cA h).length := by simp [wl, hi]
      simp [this]
    · simp [e]
def tysOf (cA : Nat → ClassId) : List (ClassId × FieldType) := [(cA 0, .int), (cA 1, .long), (cA 2, .boolean), (cA 3, .object "EvenLines$Sheet"), (cA 4, .array .long)]
def EnvOk (dC : Nat → ClassId) (dI : Nat → Nat → Nat) (ad : Nat → Nat) (cA : Nat → ClassId) (s : State) : Prop :=
  va_K (dC, dI) vwCl (tysOf cA) s ∧ (∀ i j : Nat, i < 47 → j < 47 → ad i = ad j → i = j)
theorem EnvOk.D {dC : Nat → ClassId} {dI : Nat → Nat → Nat} {ad : Nat → Nat} {cA : Nat → ClassId} {s : State} {A : Nat → Prop} (h : EnvOk dC dI ad cA s) (hA : ∀ i, i < 47 → A (ad i)) (hp : Hp) : va_D A (wl ad cA hp) := by
  refine ⟨fun i j p q hi hj e => ?_, fun k q hk => ?_⟩
  · by_cases a : i < 47
    · by_cases b : j < 47
      · rw [wl_at a] at hi
        rw [wl_at b] at hj
        cases hi
        cases hj
        exact h.2 i j a b e
      · have : (wl ad cA hp)[j]? = none := by simp [wl]; omega
        rw [this] at hj
        cases hj
    · have : (wl ad cA hp)[i]? = none := by simp [wl]; omega
      rw [this] at hi
      cases hi
  · by_cases a : k < 47
    · rw [wl_at a] at hk
      cases hk
      exact hA k a
    · have : (wl ad cA hp)[k]? = none := by simp [wl]; omega
      rw [this] at hk
      cases hk
abbrev CxT : Type := (Nat → ClassId) → (Nat → Nat → Nat) → (Nat → Nat) → (Nat → ClassId) → (Nat → Prop) → Program → Launch → Env → Room → State → MethodId → Array Value → List Frame → Method → Code → Nat → Nat → (State → Prop) → Prop
def Wd (dC : Nat → ClassId) (dI : Nat → Nat → Nat) (ad : Nat → Nat) (cA : Nat → ClassId) (A : Nat → Prop) (s : State) (h : Hp) (H : Heap) (locs : List Loc) : Prop :=
  va_P (dC, dI) vwCl (wl ad cA h) H ∧ va_S A s.heap H locs
def Bs (own : String) (cc : ByteArray) (nL d : Nat) (dC : Nat → ClassId) (dI : Nat → Nat → Nat) (ad : Nat → Nat) (cA : Nat → ClassId) (A : Nat → Prop) (p : Program) (R : Room) (s : State) (m : MethodId) (args : Array Value) (c : Code) (cells slots : Nat) : Prop :=
  p.tables.exec = Jvm.exec ∧ c.code = cc ∧ c.maxLocals = nL ∧ s.vm.findClass own = some m.cls ∧ (∀ w ∈ lw_g, w.before args s = true) ∧ d ≤ R.frames ∧ 64 * d ≤ R.locals ∧ EnvOk dC dI ad cA s ∧ (∀ i, i < 47 → A (ad i)) ∧ cells ≤ R.cells ∧ slots ≤ R.slots
/-- from here on, with the heap h, the locals lv and the stack st, the activation ends as its context K wants -/
def X (K : CxT) (own : String) (cc : ByteArray) (nL d : Nat) (h : Hp) (pc : Nat) (lv : List (Nat × Value)) (st : List Value) : Prop :=
  ∀ (dC : Nat → ClassId) (dI : Nat → Nat → Nat) (ad : Nat → Nat) (cA : Nat → ClassId) (A : Nat → Prop) (p : Program) (l : Launch) (e : Env) (R : Room) (s : State) (m : MethodId) (args : Array Value) (below : List Frame) (meth : Method) (c : Code) (cells slots : Nat) (Q : State → Prop),
    K dC dI ad cA A p l e R s m args below meth c cells slots Q → Bs own cc nL d dC dI ad cA A p R s m args c cells slots →
    ∀ (H : Heap) (locs : List Loc) (ls : Array Slot), Wd dC dI ad cA A s h H locs → lv_has ls nL (cvL ad lv) →
      W p l e R s m args below meth c H locs cells slots Q (F0 m pc ls (st.map (cvV ad)))
theorem cvL_at {ad : Nat → Nat} {lv : List (Nat × Value)} {k i : Nat} {v : Value} (h : lv[k]? = some (i, v)) : (cvL ad lv)[k]? = some (i, cvV ad v) := by
  simp [cvL, h]
theorem cv_cat (ad : Nat → Nat) (v : Value) : (cvV ad v).category = v.category := by cases v <;> rfl
theorem cvL_fil1 (ad : Nat → Nat) (lv : List (Nat × Value)) (i : Nat) : (cvL ad lv).filter (fun q => !(q.1 == i) && !(q.1 + 1 == i && q.2.category == 2)) = cvL ad (lv.filter (fun q => !(q.1 == i) && !(q.1 + 1 == i && q.2.category == 2))) := by
  unfold cvL
  rw [List.filter_map]
  congr 1
  apply List.filter_congr
  intro q _
  simp [cv_cat]
theorem cvL_fil2 (ad : Nat → Nat) (lv : List (Nat × Value)) (i : Nat) : (cvL ad lv).filter (fun q => !(q.1 == i) && (!(q.1 == i + 1) && !(q.1 + 1 == i && q.2.category == 2))) = cvL ad (lv.filter (fun q => !(q.1 == i) && (!(q.1 == i + 1) && !(q.1 + 1 == i && q.2.category == 2)))) := by
  unfold cvL
  rw [List.filter_map]
  congr 1
  apply List.filter_congr
  intro q _
  simp [cv_cat]
section XR
variable {K : CxT} {own : String} {cc : ByteArray} {nL d : Nat} {h : Hp} {pc : Nat} {lv : List (Nat × Value)} {st : List Value}

theorem x_iconst {n : Int} {v : Int32} (hd : decode cc pc = .ok (.iconst n, 1)) (hv : Int32.ofInt n = v) (k : X K own cc nL d h (pc + 1) lv (.int v :: st)) : X K own cc nL d h pc lv st := by
  intro dC dI ad cA A p l e R s m args below meth c cells slots Q hK hB H locs ls hW hl
  exact lv_iconst hB.1 hB.2.1 hd hv (k dC dI ad cA A p l e R s m args below meth c cells slots Q hK hB H locs ls hW hl)
theorem x_bipush {n : Int} {v : Int32} (hd : decode cc pc = .ok (.bipush n, 2)) (hv : (Int8.ofInt n).toInt32 = v) (k : X K own cc nL d h (pc + 2) lv (.int v :: st)) : X K own cc nL d h pc lv st := by
  intro dC dI ad cA A p l e R s m args below meth c cells slots Q hK hB H locs ls hW hl
  exact lv_bipush hB.1 hB.2.1 hd hv (k dC dI ad cA A p l e R s m args below meth c cells slots Q hK hB H locs ls hW hl)
theorem x_sipush {n : Int} {v : Int32} (hd : decode cc pc = .ok (.sipush n, 3)) (hv : (Int16.ofInt n).toInt32 = v) (k : X K own cc nL d h (pc + 3) lv (.int v :: st)) : X K own cc nL d h pc lv st := by
  intro dC dI ad cA A p l e R s m args below meth c cells slots Q hK hB H locs ls hW hl
  exact lv_sipush hB.1 hB.2.1 hd hv (k dC dI ad cA A p l e R s m args below meth c cells slots Q hK hB H locs ls hW hl)
theorem x_lconst {n : Fin 2} {v : Int64} (hd : decode cc pc = .ok (.lconst n, 1)) (hv : Int64.ofNat (n : Nat) = v) (k : X K own cc nL d h (pc + 1) lv (.long v :: st)) : X K own cc nL d h pc lv st := by
  intro dC dI ad cA A p l e R s m args below meth c cells slots Q hK hB H locs ls hW hl
  exact lv_lconst hB.1 hB.2.1 hd hv (k dC dI ad cA A p l e R s m args below meth c cells slots Q hK hB H locs ls hW hl)
theorem x_ldc {index : Nat} {v : Int32} (hw : Cond.constant own index v ∈ lw_g) (hd : decode cc pc = .ok (.ldc index, 2)) (k : X K own cc nL d h (pc + 2) lv (.int v :: st)) : X K own cc nL d h pc lv st := by
  intro dC dI ad cA A p l e R s m args below meth c cells slots Q hK hB H locs ls hW hl
  exact lv_ldc hB.1 hB.2.1 hB.2.2.2.1 (hB.2.2.2.2.1 _ hw) hd (k dC dI ad cA A p l e R s m args below meth c cells slots Q hK hB H locs ls hW hl)
theorem x_ldc2 {index : Nat} {v : Int64} (hw : Cond.constantLong own index v ∈ lw_g) (hd : decode cc pc = .ok (.ldc2_w index, 3)) (k : X K own cc nL d h (pc + 3) lv (.long v :: st)) : X K own cc nL d h pc lv st := by
  intro dC dI ad cA A p l e R s m args below meth c cells slots Q hK hB H locs ls hW hl
  exact lv_ldc2 hB.1 hB.2.1 hB.2.2.2.1 (hB.2.2.2.2.1 _ hw) hd (k dC dI ad cA A p l e R s m args below meth c cells slots Q hK hB H locs ls hW hl)
theorem x_ldcw {index : Nat} {v : Int32} (hw : Cond.constant own index v ∈ lw_g) (hd : decode cc pc = .ok (.ldc_w index, 3)) (k : X K own cc nL d h (pc + 3) lv (.int v :: st)) : X K own cc nL d h pc lv st := by
  intro dC dI ad cA A p l e R s m args below meth c cells slots Q hK hB H locs ls hW hl
  exact lv_ldcw hB.1 hB.2.1 hB.2.2.2.1 (hB.2.2.2.2.1 _ hw) hd (k dC dI ad cA A p l e R s m args below meth c cells slots Q hK hB H locs ls hW hl)
theorem x_iload_n {j : Fin 4} {i : Nat} {x : Int32} (hd : decode cc pc = .ok (.iload_n j, 1)) (hi : (j : Nat) = i) (q : Nat) (hq : lv[q]? = some (i, .int x)) (k : X K own cc nL d h (pc + 1) lv (.int x :: st)) : X K own cc nL d h pc lv st := by
  intro dC dI ad cA A p l e R s m args below meth c cells slots Q hK hB H locs ls hW hl
  exact lv_iload_n hB.1 hB.2.1 hd hi (lv_at hl q (cvL_at hq)) (k dC dI ad cA A p l e R s m args below meth c cells slots Q hK hB H locs ls hW hl)
theorem x_iload {i : Nat} {x : Int32} (hd : decode cc pc = .ok (.iload i, 2)) (q : Nat) (hq : lv[q]? = some (i, .int x)) (k : X K own cc nL d h (pc + 2) lv (.int x :: st)) : X K own cc nL d h pc lv st := by
  intro dC dI ad cA A p l e R s m args below meth c cells slots Q hK hB H locs ls hW hl
  exact lv_iload hB.1 hB.2.1 hd (lv_at hl q (cvL_at hq)) (k dC dI ad cA A p l e R s m args below meth c cells slots Q hK hB H locs ls hW hl)
theorem x_lload_n {j : Fin 4} {i : Nat} {x : Int64} (hd : decode cc pc = .ok (.lload_n j, 1)) (hi : (j : Nat) = i) (q : Nat) (hq : lv[q]? = some (i, .long x)) (k : X K own cc nL d h (pc + 1) lv (.long x :: st)) : X K own cc nL d h pc lv st := by
  intro dC dI ad cA A p l e R s m args below meth c cells slots Q hK hB H locs ls hW hl
  exact lv_lload_n hB.1 hB.2.1 hd hi (lv_at hl q (cvL_at hq)) (k dC dI ad cA A p l e R s m args below meth c cells slots Q hK hB H locs ls hW hl)
theorem x_lload {i : Nat} {x : Int64} (hd : decode cc pc = .ok (.lload i, 2)) (q : Nat) (hq : lv[q]? = some (i, .long x)) (k : X K own cc nL d h (pc + 2) lv (.long x :: st)) : X K own cc nL d h pc lv st := by
  intro dC dI ad cA A p l e R s m args below meth c cells slots Q hK hB H locs ls hW hl
  exact lv_lload hB.1 hB.2.1 hd (lv_at hl q (cvL_at hq)) (k dC dI ad cA A p l e R s m args below meth c cells slots Q hK hB H locs ls hW hl)
theorem x_aload_n {j : Fin 4} {i : Nat} {x : Nat} (hd : decode cc pc = .ok (.aload_n j, 1)) (hi : (j : Nat) = i) (q : Nat) (hq : lv[q]? = some (i, .ref x)) (k : X K own cc nL d h (pc + 1) lv (.ref x :: st)) : X K own cc nL d h pc lv st := by
  intro dC dI ad cA A p l e R s m args below meth c cells slots Q hK hB H locs ls hW hl
  exact lv_aload_n hB.1 hB.2.1 hd hi (lv_at hl q (cvL_at hq)) (k dC dI ad cA A p l e R s m args below meth c cells slots Q hK hB H locs ls hW hl)
theorem x_aload {i : Nat} {x : Nat} (hd : decode cc pc = .ok (.aload i, 2)) (q : Nat) (hq : lv[q]? = some (i, .ref x)) (k : X K own cc nL d h (pc + 2) lv (.ref x :: st)) : X K own cc nL d h pc lv st := by
  intro dC dI ad cA A p l e R s m args below meth c cells slots Q hK hB H locs ls hW hl
  exact lv_aload hB.1 hB.2.1 hd (lv_at hl q (cvL_at hq)) (k dC dI ad cA A p l e R s m args below meth c cells slots Q hK hB H locs ls hW hl)
theorem x_istore_n {j : Fin 4} {i : Nat} {x : Int32} (hd : decode cc pc = .ok (.istore_n j, 1)) (hi : (j : Nat) = i) (hn : i < nL) {lv' : List (Nat × Value)} (he : (i, Value.int x) :: lv.filter (fun q => !(q.1 == i) && !(q.1 + 1 == i && q.2.category == 2)) = lv') (k : X K own cc nL d h (pc + 1) lv' st) : X K own cc nL d h pc lv (.int x :: st) := by
  intro dC dI ad cA A p l e R s m args below meth c cells slots Q hK hB H locs ls hW hl
  exact lv_istore_n (lv' := cvL ad lv') hB.1 hB.2.1 hd hi hl hn (by rw [cvL_fil1, ← he]; rfl) (fun ls' hl' => k dC dI ad cA A p l e R s m args below meth c cells slots Q hK hB H locs ls' hW hl')
theorem x_istore {i : Nat} {x : Int32} (hd : decode cc pc = .ok (.istore i, 2)) (hn : i < nL) {lv' : List (Nat × Value)} (he : (i, Value.int x) :: lv.filter (fun q => !(q.1 == i) && !(q.1 + 1 == i && q.2.category == 2)) = lv') (k : X K own cc nL d h (pc + 2) lv' st) : X K own cc nL d h pc lv (.int x :: st) := by
  intro dC dI ad cA A p l e R s m args below meth c cells slots Q hK hB H locs ls hW hl
  exact lv_istore (lv' := cvL ad lv') hB.1 hB.2.1 hd hl hn (by rw [cvL_fil1, ← he]; rfl) (fun ls' hl' => k dC dI ad cA A p l e R s m args below meth c cells slots Q hK hB H locs ls' hW hl')
theorem x_lstore_n {j : Fin 4} {i : Nat} {x : Int64} (hd : decode cc pc = .ok (.lstore_n j, 1)) (hi : (j : Nat) = i) (hn : i + 1 < nL) {lv' : List (Nat × Value)} (he : (i, Value.long x) :: lv.filter (fun q => !(q.1 == i) && (!(q.1 == i + 1) && !(q.1 + 1 == i && q.2.category == 2))) = lv') (k : X K own cc nL d h (pc + 1) lv' st) : X K own cc nL d h pc lv (.long x :: st) := by
  intro dC dI ad cA A p l e R s m args below meth c cells slots Q hK hB H locs ls hW hl
  exact lv_lstore_n (lv' := cvL ad lv') hB.1 hB.2.1 hd hi hl hn (by rw [cvL_fil2, ← he]; rfl) (fun ls' hl' => k dC dI ad cA A p l e R s m args below meth c cells slots Q hK hB H locs ls' hW hl')
theorem x_lstore {i : Nat} {x : Int64} (hd : decode cc pc = .ok (.lstore i, 2)) (hn : i + 1 < nL) {lv' : List (Nat × Value)} (he : (i, Value.long x) :: lv.filter (fun q => !(q.1 == i) && (!(q.1 == i + 1) && !(q.1 + 1 == i && q.2.category == 2))) = lv') (k : X K own cc nL d h (pc + 2) lv' st) : X K own cc nL d h pc lv (.long x :: st) := by
  intro dC dI ad cA A p l e R s m args below meth c cells slots Q hK hB H locs ls hW hl
  exact lv_lstore (lv' := cvL ad lv') hB.1 hB.2.1 hd hl hn (by rw [cvL_fil2, ← he]; rfl) (fun ls' hl' => k dC dI ad cA A p l e R s m args below meth c cells slots Q hK hB H locs ls' hW hl')
theorem x_astore_n {j : Fin 4} {i : Nat} {x : Nat} (hd : decode cc pc = .ok (.astore_n j, 1)) (hi : (j : Nat) = i) (hn : i < nL) {lv' : List (Nat × Value)} (he : (i, Value.ref x) :: lv.filter (fun q => !(q.1 == i) && !(q.1 + 1 == i && q.2.category == 2)) = lv') (k : X K own cc nL d h (pc + 1) lv' st) : X K own cc nL d h pc lv (.ref x :: st) := by
  intro dC dI ad cA A p l e R s m args below meth c cells slots Q hK hB H locs ls hW hl
  exact lv_astore_n (lv' := cvL ad lv') hB.1 hB.2.1 hd hi hl hn (by rw [cvL_fil1, ← he]; rfl) (fun ls' hl' => k dC dI ad cA A p l e R s m args below meth c cells slots Q hK hB H locs ls' hW hl')
theorem x_astore {i : Nat} {x : Nat} (hd : decode cc pc = .ok (.astore i, 2)) (hn : i < nL) {lv' : List (Nat × Value)} (he : (i, Value.ref x) :: lv.filter (fun q => !(q.1 == i) && !(q.1 + 1 == i && q.2.category == 2)) = lv') (k : X K own cc nL d h (pc + 2) lv' st) : X K own cc nL d h pc lv (.ref x :: st) := by
  intro dC dI ad cA A p l e R s m args below meth c cells slots Q hK hB H locs ls hW hl
  exact lv_astore (lv' := cvL ad lv') hB.1 hB.2.1 hd hl hn (by rw [cvL_fil1, ← he]; rfl) (fun ls' hl' => k dC dI ad cA A p l e R s m args below meth c cells slots Q hK hB H locs ls' hW hl')
theorem x_iinc {i q : Nat} {n : Int} {x v : Int32} (hd : decode cc pc = .ok (.iinc i n, 3)) (hq : lv[q]? = some (i, .int x)) (hv : x + Int32.ofInt n = v) (hn : i < nL) {lv' : List (Nat × Value)} (he : (i, Value.int v) :: lv.filter (fun q => !(q.1 == i) && !(q.1 + 1 == i && q.2.category == 2)) = lv') (k : X K own cc nL d h (pc + 3) lv' st) : X K own cc nL d h pc lv st := by
  intro dC dI ad cA A p l e R s m args below meth c cells slots Q hK hB H locs ls hW hl
  exact lv_iinc (lv' := cvL ad lv') hB.1 hB.2.1 hd hl (cvL_at hq) hv hn (by rw [cvL_fil1, ← he]; rfl) (fun ls' hl' => k dC dI ad cA A p l e R s m args below meth c cells slots Q hK hB H locs ls' hW hl')
theorem x_perm (ks : List Nat) {lv' : List (Nat × Value)} (he : lv_pick lv ks = lv') (k : X K own cc nL d h pc lv' st) : X K own cc nL d h pc lv st := by
  intro dC dI ad cA A p l e R s m args below meth c cells slots Q hK hB H locs ls hW hl
  exact k dC dI ad cA A p l e R s m args below meth c cells slots Q hK hB H locs ls hW (lv_sub hl ks (by rw [← he]; simp [lv_pick, cvL, List.map_filterMap]))
def irem (x y : Int32) : Int32 := x - x / y * y
def ishl (x y : Int32) : Int32 := x <<< (y &&& 31)
def ishr (x y : Int32) : Int32 := x >>> (y &&& 31)
def iushr (x y : Int32) : Int32 := (x.toUInt32 >>> (y.toUInt32 &&& Int32.toUInt32 31)).toInt32
def lcmp (x y : Int64) : Int32 := lg_cmp x y
theorem x_iadd {x y : Int32} (hd : decode cc pc = .ok (.iadd, 1)) (k : X K own cc nL d h (pc + 1) lv (.int (x + y) :: st)) : X K own cc nL d h pc lv (.int y :: .int x :: st) := by
  intro dC dI ad cA A p l e R s m args below meth c cells slots Q hK hB H locs ls hW hl
  exact lv_iadd hB.1 hB.2.1 hd (k dC dI ad cA A p l e R s m args below meth c cells slots Q hK hB H locs ls hW hl)
theorem x_isub {x y : Int32} (hd : decode cc pc = .ok (.isub, 1)) (k : X K own cc nL d h (pc + 1) lv (.int (x - y) :: st)) : X K own cc nL d h pc lv (.int y :: .int x :: st) := by
  intro dC dI ad cA A p l e R s m args below meth c cells slots Q hK hB H locs ls hW hl
  exact lv_isub hB.1 hB.2.1 hd (k dC dI ad cA A p l e R s m args below meth c cells slots Q hK hB H locs ls hW hl)
theorem x_imul {x y : Int32} (hd : decode cc pc = .ok (.imul, 1)) (k : X K own cc nL d h (pc + 1) lv (.int (x * y) :: st)) : X K own cc nL d h pc lv (.int y :: .int x :: st) := by
  intro dC dI ad cA A p l e R s m args below meth c cells slots Q hK hB H locs ls hW hl
  exact lv_imul hB.1 hB.2.1 hd (k dC dI ad cA A p l e R s m args below meth c cells slots Q hK hB H locs ls hW hl)
theorem x_iand {x y : Int32} (hd : decode cc pc = .ok (.iand, 1)) (k : X K own cc nL d h (pc + 1) lv (.int (x &&& y) :: st)) : X K own cc nL d h pc lv (.int y :: .int x :: st) := by
  intro dC dI ad cA A p l e R s m args below meth c cells slots Q hK hB H locs ls hW hl
  exact lv_iand hB.1 hB.2.1 hd (k dC dI ad cA A p l e R s m args below meth c cells slots Q hK hB H locs ls hW hl)
theorem x_ior {x y : Int32} (hd : decode cc pc = .ok (.ior, 1)) (k : X K own cc nL d h (pc + 1) lv (.int (x ||| y) :: st)) : X K own cc nL d h pc lv (.int y :: .int x :: st) := by
  intro dC dI ad cA A p l e R s m args below meth c cells slots Q hK hB H locs ls hW hl
  exact lv_ior hB.1 hB.2.1 hd (k dC dI ad cA A p l e R s m args below meth c cells slots Q hK hB H locs ls hW hl)
theorem x_ixor {x y : Int32} (hd : decode cc pc = .ok (.ixor, 1)) (k : X K own cc nL d h (pc + 1) lv (.int (x ^^^ y) :: st)) : X K own cc nL d h pc lv (.int y :: .int x :: st) := by
  intro dC dI ad cA A p l e R s m args below meth c cells slots Q hK hB H locs ls hW hl
  exact lv_ixor hB.1 hB.2.1 hd (k dC dI ad cA A p l e R s m args below meth c cells slots Q hK hB H locs ls hW hl)
theorem x_ishl {x y : Int32} (hd : decode cc pc = .ok (.ishl, 1)) (k : X K own cc nL d h (pc + 1) lv (.int (ishl x y) :: st)) : X K own cc nL d h pc lv (.int y :: .int x :: st) := by
  intro dC dI ad cA A p l e R s m args below meth c cells slots Q hK hB H locs ls hW hl
  exact lv_ishl hB.1 hB.2.1 hd (k dC dI ad cA A p l e R s m args below meth c cells slots Q hK hB H locs ls hW hl)
theorem x_ishr {x y : Int32} (hd : decode cc pc = .ok (.ishr, 1)) (k : X K own cc nL d h (pc + 1) lv (.int (ishr x y) :: st)) : X K own cc nL d h pc lv (.int y :: .int x :: st) := by
  intro dC dI ad cA A p l e R s m args below meth c cells slots Q hK hB H locs ls hW hl
  exact lv_ishr hB.1 hB.2.1 hd (k dC dI ad cA A p l e R s m args below meth c cells slots Q hK hB H locs ls hW hl)
theorem x_idiv {x y : Int32} (hd : decode cc pc = .ok (.idiv, 1)) (hne : ¬ y = 0) (k : X K own cc nL d h (pc + 1) lv (.int (x / y) :: st)) : X K own cc nL d h pc lv (.int y :: .int x :: st) := by
  intro dC dI ad cA A p l e R s m args below meth c cells slots Q hK hB H locs ls hW hl
  exact lv_idiv hB.1 hB.2.1 hd hne (k dC dI ad cA A p l e R s m args below meth c cells slots Q hK hB H locs ls hW hl)
theorem x_irem {x y : Int32} (hd : decode cc pc = .ok (.irem, 1)) (hne : ¬ y = 0) (k : X K own cc nL d h (pc + 1) lv (.int (irem x y) :: st)) : X K own cc nL d h pc lv (.int y :: .int x :: st) := by
  intro dC dI ad cA A p l e R s m args below meth c cells slots Q hK hB H locs ls hW hl
  exact lv_irem hB.1 hB.2.1 hd hne (k dC dI ad cA A p l e R s m args below meth c cells slots Q hK hB H locs ls hW hl)
theorem x_ladd {x y : Int64} (hd : decode cc pc = .ok (.ladd, 1)) (k : X K own cc nL d h (pc + 1) lv (.long (x + y) :: st)) : X K own cc nL d h pc lv (.long y :: .long x :: st) := by
  intro dC dI ad cA A p l e R s m args below meth c cells slots Q hK hB H locs ls hW hl
  exact lv_ladd hB.1 hB.2.1 hd (k dC dI ad cA A p l e R s m args below meth c cells slots Q hK hB H locs ls hW hl)
theorem x_lsub {x y : Int64} (hd : decode cc pc = .ok (.lsub, 1)) (k : X K own cc nL d h (pc + 1) lv (.long (x - y) :: st)) : X K own cc nL d h pc lv (.long y :: .long x :: st) := by
  intro dC dI ad cA A p l e R s m args below meth c cells slots Q hK hB H locs ls hW hl
  exact lv_lsub hB.1 hB.2.1 hd (k dC dI ad cA A p l e R s m args below meth c cells slots Q hK hB H locs ls hW hl)
theorem x_lmul {x y : Int64} (hd : decode cc pc = .ok (.lmul, 1)) (k : X K own cc nL d h (pc + 1) lv (.long (x * y) :: st)) : X K own cc nL d h pc lv (.long y :: .long x :: st) := by
  intro dC dI ad cA A p l e R s m args below meth c cells slots Q hK hB H locs ls hW hl
  exact lv_lmul hB.1 hB.2.1 hd (k dC dI ad cA A p l e R s m args below meth c cells slots Q hK hB H locs ls hW hl)
theorem x_ldiv {x y : Int64} (hd : decode cc pc = .ok (.ldiv, 1)) (hne : ¬ y = 0) (k : X K own cc nL d h (pc + 1) lv (.long (x / y) :: st)) : X K own cc nL d h pc lv (.long y :: .long x :: st) := by
  intro dC dI ad cA A p l e R s m args below meth c cells slots Q hK hB H locs ls hW hl
  exact lv_ldiv hB.1 hB.2.1 hd hne (k dC dI ad cA A p l e R s m args below meth c cells slots Q hK hB H locs ls hW hl)
theorem x_iushr {x y : Int32} (hd : decode cc pc = .ok (.iushr, 1)) (k : X K own cc nL d h (pc + 1) lv (.int (iushr x y) :: st)) : X K own cc nL d h pc lv (.int y :: .int x :: st) := by
  intro dC dI ad cA A p l e R s m args below meth c cells slots Q hK hB H locs ls hW hl
  exact lv_iushr hB.1 hB.2.1 hd rfl (k dC dI ad cA A p l e R s m args below meth c cells slots Q hK hB H locs ls hW hl)
theorem x_lcmp {x y : Int64} (hd : decode cc pc = .ok (.lcmp, 1)) (k : X K own cc nL d h (pc + 1) lv (.int (lcmp x y) :: st)) : X K own cc nL d h pc lv (.long y :: .long x :: st) := by
  intro dC dI ad cA A p l e R s m args below meth c cells slots Q hK hB H locs ls hW hl
  exact W.lcmp hB.1 hB.2.1 hd (k dC dI ad cA A p l e R s m args below meth c cells slots Q hK hB H locs ls hW hl)
theorem x_ineg {x : Int32} (hd : decode cc pc = .ok (.ineg, 1)) (k : X K own cc nL d h (pc + 1) lv (.int (-x) :: st)) : X K own cc nL d h pc lv (.int x :: st) := by
  intro dC dI ad cA A p l e R s m args below meth c cells slots Q hK hB H locs ls hW hl
  exact lv_ineg hB.1 hB.2.1 hd (k dC dI ad cA A p l e R s m args below meth c cells slots Q hK hB H locs ls hW hl)
theorem x_lneg {x : Int64} (hd : decode cc pc = .ok (.lneg, 1)) (k : X K own cc nL d h (pc + 1) lv (.long (-x) :: st)) : X K own cc nL d h pc lv (.long x :: st) := by
  intro dC dI ad cA A p l e R s m args below meth c cells slots Q hK hB H locs ls hW hl
  exact lv_lneg hB.1 hB.2.1 hd (k dC dI ad cA A p l e R s m args below meth c cells slots Q hK hB H locs ls hW hl)
theorem x_i2l {x : Int32} (hd : decode cc pc = .ok (.i2l, 1)) (k : X K own cc nL d h (pc + 1) lv (.long (x.toInt64) :: st)) : X K own cc nL d h pc lv (.int x :: st) := by
  intro dC dI ad cA A p l e R s m args below meth c cells slots Q hK hB H locs ls hW hl
  exact lv_i2l hB.1 hB.2.1 hd rfl (k dC dI ad cA A p l e R s m args below meth c cells slots Q hK hB H locs ls hW hl)
theorem x_i2b {x : Int32} (hd : decode cc pc = .ok (.i2b, 1)) (k : X K own cc nL d h (pc + 1) lv (.int (x.toInt8.toInt32) :: st)) : X K own cc nL d h pc lv (.int x :: st) := by
  intro dC dI ad cA A p l e R s m args below meth c cells slots Q hK hB H locs ls hW hl
  exact lv_i2b hB.1 hB.2.1 hd rfl (k dC dI ad cA A p l e R s m args below meth c cells slots Q hK hB H locs ls hW hl)
theorem x_i2s {x : Int32} (hd : decode cc pc = .ok (.i2s, 1)) (k : X K own cc nL d h (pc + 1) lv (.int (x.toInt16.toInt32) :: st)) : X K own cc nL d h pc lv (.int x :: st) := by
  intro dC dI ad cA A p l e R s m args below meth c cells slots Q hK hB H locs ls hW hl
  exact lv_i2s hB.1 hB.2.1 hd rfl (k dC dI ad cA A p l e R s m args below meth c cells slots Q hK hB H locs ls hW hl)
theorem x_dup {v : Value} (hd : decode cc pc = .ok (.dup, 1)) (hv : v.category = 1) (k : X K own cc nL d h (pc + 1) lv (v :: v :: st)) : X K own cc nL d h pc lv (v :: st) := by
  intro dC dI ad cA A p l e R s m args below meth c cells slots Q hK hB H locs ls hW hl
  exact lv_dup hB.1 hB.2.1 hd (by rw [cv_cat]; exact hv) (k dC dI ad cA A p l e R s m args below meth c cells slots Q hK hB H locs ls hW hl)
theorem x_pop {v : Value} (hd : decode cc pc = .ok (.pop, 1)) (hv : v.category = 1) (k : X K own cc nL d h (pc + 1) lv st) : X K own cc nL d h pc lv (v :: st) := by
  intro dC dI ad cA A p l e R s m args below meth c cells slots Q hK hB H locs ls hW hl
  exact lv_pop hB.1 hB.2.1 hd (by rw [cv_cat]; exact hv) (k dC dI ad cA A p l e R s m args below meth c cells slots Q hK hB H locs ls hW hl)
theorem x_dup2 {v u : Value} (hd : decode cc pc = .ok (.dup2, 1)) (hv : v.category = 1) (hu : u.category = 1) (k : X K own cc nL d h (pc + 1) lv (v :: u :: v :: u :: st)) : X K own cc nL d h pc lv (v :: u :: st) := by
  intro dC dI ad cA A p l e R s m args below meth c cells slots Q hK hB H locs ls hW hl
  exact lv_dup2_11 hB.1 hB.2.1 hd (by rw [cv_cat]; exact hv) (by rw [cv_cat]; exact hu) (k dC dI ad cA A p l e R s m args below meth c cells slots Q hK hB H locs ls hW hl)
theorem x_if_eq {x : Int32} {off : Int} {tgt : Nat} (hd : decode cc pc = .ok (.ifCond .eq off, 3)) (ht : (pc : Int) + off = (tgt : Int)) (kt : x = 0 → X K own cc nL d h tgt lv st) (kf : ¬ x = 0 → X K own cc nL d h (pc + 3) lv st) : X K own cc nL d h pc lv (.int x :: st) := by
  intro dC dI ad cA A p l e R s m args below meth c cells slots Q hK hB H locs ls hW hl
  exact lv_if_eq hB.1 hB.2.1 hd ht (fun q => kt q dC dI ad cA A p l e R s m args below meth c cells slots Q hK hB H locs ls hW hl) (fun q => kf q dC dI ad cA A p l e R s m args below meth c cells slots Q hK hB H locs ls hW hl)
theorem x_icmp_eq {x y : Int32} {off : Int} {tgt : Nat} (hd : decode cc pc = .ok (.if_icmp .eq off, 3)) (ht : (pc : Int) + off = (tgt : Int)) (kt : x = y → X K own cc nL d h tgt lv st) (kf : ¬ x = y → X K own cc nL d h (pc + 3) lv st) : X K own cc nL d h pc lv (.int y :: .int x :: st) := by
  intro dC dI ad cA A p l e R s m args below meth c cells slots Q hK hB H locs ls hW hl
  exact lv_icmp_eq hB.1 hB.2.1 hd ht (fun q => kt q dC dI ad cA A p l e R s m args below meth c cells slots Q hK hB H locs ls hW hl) (fun q => kf q dC dI ad cA A p l e R s m args below meth c cells slots Q hK hB H locs ls hW hl)
theorem x_if_ne {x : Int32} {off : Int} {tgt : Nat} (hd : decode cc pc = .ok (.ifCond .ne off, 3)) (ht : (pc : Int) + off = (tgt : Int)) (kt : ¬ x = 0 → X K own cc nL d h tgt lv st) (kf : x = 0 → X K own cc nL d h (pc + 3) lv st) : X K own cc nL d h pc lv (.int x :: st) := by
  intro dC dI ad cA A p l e R s m args below meth c cells slots Q hK hB H locs ls hW hl
  exact lv_if_ne hB.1 hB.2.1 hd ht (fun q => kt q dC dI ad cA A p l e R s m args below meth c cells slots Q hK hB H locs ls hW hl) (fun q => kf q dC dI ad cA A p l e R s m args below meth c cells slots Q hK hB H locs ls hW hl)
theorem x_icmp_ne {x y : Int32} {off : Int} {tgt : Nat} (hd : decode cc pc = .ok (.if_icmp .ne off, 3)) (ht : (pc : Int) + off = (tgt : Int)) (kt : ¬ x = y → X K own cc nL d h tgt lv st) (kf : x = y → X K own cc nL d h (pc + 3) lv st) : X K own cc nL d h pc lv (.int y :: .int x :: st) := by
  intro dC dI ad cA A p l e R s m args below meth c cells slots Q hK hB H locs ls hW hl
  exact lv_icmp_ne hB.1 hB.2.1 hd ht (fun q => kt q dC dI ad cA A p l e R s m args below meth c cells slots Q hK hB H locs ls hW hl) (fun q => kf q dC dI ad cA A p l e R s m args below meth c cells slots Q hK hB H locs ls hW hl)
theorem x_if_lt {x : Int32} {off : Int} {tgt : Nat} (hd : decode cc pc = .ok (.ifCond .lt off, 3)) (ht : (pc : Int) + off = (tgt : Int)) (kt : x < 0 → X K own cc nL d h tgt lv st) (kf : ¬ x < 0 → X K own cc nL d h (pc + 3) lv st) : X K own cc nL d h pc lv (.int x :: st) := by
  intro dC dI ad cA A p l e R s m args below meth c cells slots Q hK hB H locs ls hW hl
  exact lv_if_lt hB.1 hB.2.1 hd ht (fun q => kt q dC dI ad cA A p l e R s m args below meth c cells slots Q hK hB H locs ls hW hl) (fun q => kf q dC dI ad cA A p l e R s m args below meth c cells slots Q hK hB H locs ls hW hl)
theorem x_icmp_lt {x y : Int32} {off : Int} {tgt : Nat} (hd : decode cc pc = .ok (.if_icmp .lt off, 3)) (ht : (pc : Int) + off = (tgt : Int)) (kt : x < y → X K own cc nL d h tgt lv st) (kf : ¬ x < y → X K own cc nL d h (pc + 3) lv st) : X K own cc nL d h pc lv (.int y :: .int x :: st) := by
  intro dC dI ad cA A p l e R s m args below meth c cells slots Q hK hB H locs ls hW hl
  exact lv_icmp_lt hB.1 hB.2.1 hd ht (fun q => kt q dC dI ad cA A p l e R s m args below meth c cells slots Q hK hB H locs ls hW hl) (fun q => kf q dC dI ad cA A p l e R s m args below meth c cells slots Q hK hB H locs ls hW hl)
theorem x_if_ge {x : Int32} {off : Int} {tgt : Nat} (hd : decode cc pc = .ok (.ifCond .ge off, 3)) (ht : (pc : Int) + off = (tgt : Int)) (kt : 0 ≤ x → X K own cc nL d h tgt lv st) (kf : ¬ 0 ≤ x → X K own cc nL d h (pc + 3) lv st) : X K own cc nL d h pc lv (.int x :: st) := by
  intro dC dI ad cA A p l e R s m args below meth c cells slots Q hK hB H locs ls hW hl
  exact lv_if_ge hB.1 hB.2.1 hd ht (fun q => kt q dC dI ad cA A p l e R s m args below meth c cells slots Q hK hB H locs ls hW hl) (fun q => kf q dC dI ad cA A p l e R s m args below meth c cells slots Q hK hB H locs ls hW hl)
theorem x_icmp_ge {x y : Int32} {off : Int} {tgt : Nat} (hd : decode cc pc = .ok (.if_icmp .ge off, 3)) (ht : (pc : Int) + off = (tgt : Int)) (kt : y ≤ x → X K own cc nL d h tgt lv st) (kf : ¬ y ≤ x → X K own cc nL d h (pc + 3) lv st) : X K own cc nL d h pc lv (.int y :: .int x :: st) := by
  intro dC dI ad cA A p l e R s m args below meth c cells slots Q hK hB H locs ls hW hl
  exact lv_icmp_ge hB.1 hB.2.1 hd ht (fun q => kt q dC dI ad cA A p l e R s m args below meth c cells slots Q hK hB H locs ls hW hl) (fun q => kf q dC dI ad cA A p l e R s m args below meth c cells slots Q hK hB H locs ls hW hl)
theorem x_if_gt {x : Int32} {off : Int} {tgt : Nat} (hd : decode cc pc = .ok (.ifCond .gt off, 3)) (ht : (pc : Int) + off = (tgt : Int)) (kt : 0 < x → X K own cc nL d h tgt lv st) (kf : ¬ 0 < x → X K own cc nL d h (pc + 3) lv st) : X K own cc nL d h pc lv (.int x :: st) := by
  intro dC dI ad cA A p l e R s m args below meth c cells slots Q hK hB H locs ls hW hl
  exact lv_if_gt hB.1 hB.2.1 hd ht (fun q => kt q dC dI ad cA A p l e R s m args below meth c cells slots Q hK hB H locs ls hW hl) (fun q => kf q dC dI ad cA A p l e R s m args below meth c cells slots Q hK hB H locs ls hW hl)
theorem x_icmp_gt {x y : Int32} {off : Int} {tgt : Nat} (hd : decode cc pc = .ok (.if_icmp .gt off, 3)) (ht : (pc : Int) + off = (tgt : Int)) (kt : y < x → X K own cc nL d h tgt lv st) (kf : ¬ y < x → X K own cc nL d h (pc + 3) lv st) : X K own cc nL d h pc lv (.int y :: .int x :: st) := by
  intro dC dI ad cA A p l e R s m args below meth c cells slots Q hK hB H locs ls hW hl
  exact lv_icmp_gt hB.1 hB.2.1 hd ht (fun q => kt q dC dI ad cA A p l e R s m args below meth c cells slots Q hK hB H locs ls hW hl) (fun q => kf q dC dI ad cA A p l e R s m args below meth c cells slots Q hK hB H locs ls hW hl)
theorem x_if_le {x : Int32} {off : Int} {tgt : Nat} (hd : decode cc pc = .ok (.ifCond .le off, 3)) (ht : (pc : Int) + off = (tgt : Int)) (kt : x ≤ 0 → X K own cc nL d h tgt lv st) (kf : ¬ x ≤ 0 → X K own cc nL d h (pc + 3) lv st) : X K own cc nL d h pc lv (.int x :: st) := by
  intro dC dI ad cA A p l e R s m args below meth c cells slots Q hK hB H locs ls hW hl
  exact lv_if_le hB.1 hB.2.1 hd ht (fun q => kt q dC dI ad cA A p l e R s m args below meth c cells slots Q hK hB H locs ls hW hl) (fun q => kf q dC dI ad cA A p l e R s m args below meth c cells slots Q hK hB H locs ls hW hl)
theorem x_icmp_le {x y : Int32} {off : Int} {tgt : Nat} (hd : decode cc pc = .ok (.if_icmp .le off, 3)) (ht : (pc : Int) + off = (tgt : Int)) (kt : x ≤ y → X K own cc nL d h tgt lv st) (kf : ¬ x ≤ y → X K own cc nL d h (pc + 3) lv st) : X K own cc nL d h pc lv (.int y :: .int x :: st) := by
  intro dC dI ad cA A p l e R s m args below meth c cells slots Q hK hB H locs ls hW hl
  exact lv_icmp_le hB.1 hB.2.1 hd ht (fun q => kt q dC dI ad cA A p l e R s m args below meth c cells slots Q hK hB H locs ls hW hl) (fun q => kf q dC dI ad cA A p l e R s m args below meth c cells slots Q hK hB H locs ls hW hl)
theorem x_goto {off : Int} {tgt : Nat} (hd : decode cc pc = .ok (.goto off, 3)) (ht : (pc : Int) + off = (tgt : Int)) (k : X K own cc nL d h tgt lv st) : X K own cc nL d h pc lv st := by
  intro dC dI ad cA A p l e R s m args below meth c cells slots Q hK hB H locs ls hW hl
  exact lv_goto hB.1 hB.2.1 hd ht (k dC dI ad cA A p l e R s m args below meth c cells slots Q hK hB H locs ls hW hl)
end XR
end
section

def gV (h : Hp) (c k j : Nat) : Option Value := if k < 47 then (match h k with
  | .inr (c', fs) => if c' = c then fs[j]? else none
  | _ => none) else none
def gI (h : Hp) (c k j : Nat) : Option Int32 := match gV h c k j with
  | some (.int x) => some x
  | _ => none
def gR (h : Hp) (c k j : Nat) : Option Nat := match gV h c k j with
  | some (.ref x) => some x
  | _ => none
def sF (h : Hp) (c k j : Nat) (v : Value) : Option Hp := if k < 47 then (match h k with
  | .inr (c', fs) => if c' = c ∧ j < fs.length then some (hu h k (.inr (c, fs.set j v))) else none
  | _ => none) else none
def aInt (t : Nat) (h : Hp) (k : Nat) : Option (Nat × (Nat → Int32)) := if k < 47 then (match h k with
  | .inl (t', n, .inl f) => if t' = t then some (n, f) else none
  | _ => none) else none
def aLng (h : Hp) (k : Nat) : Option (Nat × (Nat → Int64)) := if k < 47 then (match h k with
  | .inl (t', n, .inr (.inl f)) => if t' = 1 then some (n, f) else none
  | _ => none) else none
def aRef (t : Nat) (h : Hp) (k : Nat) : Option (Nat × (Nat → Option Nat)) := if k < 47 then (match h k with
  | .inl (t', n, .inr (.inr (.inr (.inr f)))) => if t' = t then some (n, f) else none
  | _ => none) else none
def iA (n : Nat) (f : Nat → Int32) : Cl := .inl (0, n, .inl f)
def zA (n : Nat) (f : Nat → Int32) : Cl := .inl (2, n, .inl f)
def jA (n : Nat) (f : Nat → Int64) : Cl := .inl (1, n, .inr (.inl f))
def qA (t n : Nat) (f : Nat → Option Nat) : Cl := .inl (t, n, .inr (.inr (.inr (.inr f))))
def ob (c : Nat) (fs : List Value) : Cl := .inr (c, fs)
abbrev inI (i : Int32) (n : Nat) : Prop := 0 ≤ i ∧ i.toNatClampNeg < n
def lT (t : Nat) (h : Hp) (k : Nat) (i : Int32) : Option Int32 := match aInt t h k with
  | some (n, f) => if inI i n then some (f i.toNatClampNeg) else none
  | none => none
def lI (h : Hp) (k : Nat) (i : Int32) : Option Int32 := lT 0 h k i
def lZ (h : Hp) (k : Nat) (i : Int32) : Option Int32 := lT 2 h k i
def lJ (h : Hp) (k : Nat) (i : Int32) : Option Int64 := match aLng h k with
  | some (n, f) => if inI i n then some (f i.toNatClampNeg) else none
  | none => none
def lQ (t : Nat) (h : Hp) (k : Nat) (i : Int32) : Option Nat := match aRef t h k with
  | some (n, f) => if inI i n then f i.toNatClampNeg else none
  | none => none
def sI (h : Hp) (k : Nat) (i x : Int32) : Option Hp := match aInt 0 h k with
  | some (n, f) => if inI i n then some (hu h k (iA n (upd f i.toNatClampNeg x))) else none
  | none => none
def sZ (h : Hp) (k : Nat) (i x : Int32) : Option Hp := match aInt 2 h k with
  | some (n, f) => if inI i n ∧ (x = 0 ∨ x = 1) then some (hu h k (zA n (upd f i.toNatClampNeg x))) else none
  | none => none
def sJ (h : Hp) (k : Nat) (i : Int32) (x : Int64) : Option Hp := match aLng h k with
  | some (n, f) => if inI i n then some (hu h k (jA n (vp_updL f i.toNatClampNeg x))) else none
  | none => none
def cpyI (h : Hp) (a : Nat) (i : Int32) (b : Nat) (j n : Int32) : Option Hp := match aInt 0 h a, aInt 0 h b with
  | some (na, f), some (nb, g) => if 0 ≤ i ∧ 0 ≤ j ∧ 0 ≤ n ∧ i.toNatClampNeg + n.toNatClampNeg ≤ na ∧ j.toNatClampNeg + n.toNatClampNeg ≤ nb then some (hu h b (iA nb (va_cpy f g i.toNatClampNeg j.toNatClampNeg n.toNatClampNeg))) else none
  | _, _ => none
theorem in_vp {i : Int32} {n : Nat} (h : inI i n) : vp_in i n := fun q => q.elim (fun q => absurd h.1 (Int32.not_le.mpr q)) (fun q => absurd h.2 (Nat.not_lt.mpr q))
theorem gV_spec {h : Hp} {c k j : Nat} {v : Value} (e : gV h c k j = some v) : k < 47 ∧ ∃ fs, h k = .inr (c, fs) ∧ fs[j]? = some v := by
  unfold gV at e
  split at e
  · refine ⟨by assumption, ?_⟩
    split at e
    · rename_i c' fs hh
      split at e
      · rename_i hc
        subst hc
        exact ⟨fs, hh, e⟩
      · cases e
    · cases e
  · cases e
theorem gI_spec {h : Hp} {c k j : Nat} {x : Int32} (e : gI h c k j = some x) : gV h c k j = some (.int x) := by
  unfold gI at e
  split at e
  · cases e; assumption
  · cases e
theorem gR_spec {h : Hp} {c k j : Nat} {x : Nat} (e : gR h c k j = some x) : gV h c k j = some (.ref x) := by
  unfold gR at e
  split at e
  · cases e; assumption
  · cases e
theorem sF_spec {h h' : Hp} {c k j : Nat} {v : Value} (e : sF h c k j v = some h') : k < 47 ∧ ∃ fs, h k = .inr (c, fs) ∧ j < fs.length ∧ h' = hu h k (.inr (c, fs.set j v)) := by
  unfold sF at e
  split at e
  · refine ⟨by assumption, ?_⟩
    split at e
    · rename_i c' fs hh
      split at e
      · rename_i hc
        obtain ⟨hc, hl⟩ := hc
        subst hc
        cases e
        exact ⟨fs, hh, hl, rfl⟩
      · cases e
    · cases e
  · cases e
theorem aInt_spec {t : Nat} {h : Hp} {k n : Nat} {f : Nat → Int32} (e : aInt t h k = some (n, f)) : k < 47 ∧ h k = .inl (t, n, .inl f) := by
  unfold aInt at e
  split at e
  · refine ⟨by assumption, ?_⟩
    split at e
    · rename_i t' n' f' hh
      split at e
      · rename_i ht
        subst ht
        cases e
        exact hh
      · cases e
    · cases e
  · cases e
theorem aLng_spec {h : Hp} {k n : Nat} {f : Nat → Int64} (e : aLng h k = some (n, f)) : k < 47 ∧ h k = .inl (1, n, .inr (.inl f)) := by
  unfold aLng at e
  split at e
  · refine ⟨by assumption, ?_⟩
    split at e
    · rename_i t' n' f' hh
      split at e
      · rename_i ht
        subst ht
        cases e
        exact hh
      · cases e
    · cases e
  · cases e
theorem aRef_spec {t : Nat} {h : Hp} {k n : Nat} {f : Nat → Option Nat} (e : aRef t h k = some (n, f)) : k < 47 ∧ h k = .inl (t, n, .inr (.inr (.inr (.inr f)))) := by
  unfold aRef at e
  split at e
  · refine ⟨by assumption, ?_⟩
    split at e
    · rename_i t' n' f' hh
      split at e
      · rename_i ht
        subst ht
        cases e
        exact hh
      · cases e
    · cases e
  · cases e
theorem lT_spec {t : Nat} {h : Hp} {k : Nat} {i x : Int32} (e : lT t h k i = some x) : ∃ n f, k < 47 ∧ h k = .inl (t, n, .inl f) ∧ inI i n ∧ x = f i.toNatClampNeg := by
  unfold lT at e
  split at e
  · rename_i n f hh
    split at e
    · rename_i hi
      cases e
      exact ⟨n, f, (aInt_spec hh).1, (aInt_spec hh).2, hi, rfl⟩
    · cases e
  · cases e
theorem lJ_spec {h : Hp} {k : Nat} {i : Int32} {x : Int64} (e : lJ h k i = some x) : ∃ n f, k < 47 ∧ h k = .inl (1, n, .inr (.inl f)) ∧ inI i n ∧ x = f i.toNatClampNeg := by
  unfold lJ at e
  split at e
  · rename_i n f hh
    split at e
    · rename_i hi
      cases e
      exact ⟨n, f, (aLng_spec hh).1, (aLng_spec hh).2, hi, rfl⟩
    · cases e
  · cases e
theorem lQ_spec {t : Nat} {h : Hp} {k : Nat} {i : Int32} {x : Nat} (e : lQ t h k i = some x) : ∃ n f, k < 47 ∧ h k = .inl (t, n, .inr (.inr (.inr (.inr f)))) ∧ inI i n ∧ f i.toNatClampNeg = some x := by
  unfold lQ at e
  split at e
  · rename_i n f hh
    split at e
    · rename_i hi
      exact ⟨n, f, (aRef_spec hh).1, (aRef_spec hh).2, hi, e⟩
    · cases e
  · cases e
theorem sI_spec {h h' : Hp} {k : Nat} {i x : Int32} (e : sI h k i x = some h') : ∃ n f, k < 47 ∧ h k = .inl (0, n, .inl f) ∧ inI i n ∧ h' = hu h k (iA n (upd f i.toNatClampNeg x)) := by
  unfold sI at e
  split at e
  · rename_i n f hh
    split at e
    · rename_i hi
      cases e
      exact ⟨n, f, (aInt_spec hh).1, (aInt_spec hh).2, hi, rfl⟩
    · cases e
  · cases e
theorem sZ_spec {h h' : Hp} {k : Nat} {i x : Int32} (e : sZ h k i x = some h') : ∃ n f, k < 47 ∧ h k = .inl (2, n, .inl f) ∧ inI i n ∧ (x = 0 ∨ x = 1) ∧ h' = hu h k (zA n (upd f i.toNatClampNeg x)) := by
  unfold sZ at e
  split at e
  · rename_i n f hh
    split at e
    · rename_i hi
      cases e
      exact ⟨n, f, (aInt_spec hh).1, (aInt_spec hh).2, hi.1, hi.2, rfl⟩
    · cases e
  · cases e
theorem sJ_spec {h h' : Hp} {k : Nat} {i : Int32} {x : Int64} (e : sJ h k i x = some h') : ∃ n f, k < 47 ∧ h k = .inl (1, n, .inr (.inl f)) ∧ inI i n ∧ h' = hu h k (jA n (vp_updL f i.toNatClampNeg x)) := by
  unfold sJ at e
  split at e
  · rename_i n f hh
    split at e
    · rename_i hi
      cases e
      exact ⟨n, f, (aLng_spec hh).1, (aLng_spec hh).2, hi, rfl⟩
    · cases e
  · cases e
theorem cpyI_spec {h h' : Hp} {a b : Nat} {i j n : Int32} (e : cpyI h a i b j n = some h') : ∃ na f nb g, a < 47 ∧ b < 47 ∧ h a = .inl (0, na, .inl f) ∧ h b = .inl (0, nb, .inl g) ∧ 0 ≤ i ∧ 0 ≤ j ∧ 0 ≤ n ∧ i.toNatClampNeg + n.toNatClampNeg ≤ na ∧ j.toNatClampNeg + n.toNatClampNeg ≤ nb ∧ h' = hu h b (iA nb (va_cpy f g i.toNatClampNeg j.toNatClampNeg n.toNatClampNeg)) := by
  unfold cpyI at e
  split at e
  · rename_i na f nb g ha hb
    split at e
    · rename_i hi
      cases e
      exact ⟨na, f, nb, g, (aInt_spec ha).1, (aInt_spec hb).1, (aInt_spec ha).2, (aInt_spec hb).2, hi.1, hi.2.1, hi.2.2.1, hi.2.2.2.1, hi.2.2.2.2, rfl⟩
    · cases e
  · cases e
/-- the links of a field's use -/
def FL (own : String) (idx ci j : Nat) : Prop := ∃ (C : String) (T : u_T) (N : Nat), vwCl[ci]? = some (C, T, N) ∧ j < N ∧ (∀ w ∈ u_ws C T N, w ∈ lw_g) ∧ Cond.fieldLink own idx (T j).1 (T j).2.1 (T j).2.2.1 ∈ lw_g
def FP (own : String) (idx ci j : Nat) (ty : FieldType) : Prop := ∃ (C : String) (T : u_T) (N : Nat) (ty0 : Nat → FieldType), vwCl[ci]? = some (C, T, N) ∧ j < N ∧ (∀ w ∈ u_ws C T N, w ∈ lw_g) ∧ Cond.fieldLink own idx (T j).1 (T j).2.1 (T j).2.2.1 ∈ lw_g ∧
  (∀ k, k < N → parseFieldDescriptor (T k).2.2.1 = some (ty0 k)) ∧ (∀ a, a < N → ∀ b, b < N → a ≠ b → (T a).2.1 ≠ (T b).2.1) ∧ (T j).2.2.2 = false ∧ parseFieldDescriptor (T j).2.2.1 = some ty
abbrev MI : Type := MethodName × ByteArray × Nat × Option FieldType × Option Nat
def wsM (mi : MI) : List Cond := .code mi.1 mi.2.1 mi.2.2.1 mi.2.2.2.1 :: lw_g
def rmd (d : Nat) : Room := { frames := d, cells := 0, slots := 0, locals := 64 * d }
def AD (ad : Nat → Nat) : Nat → Prop := fun q => ∃ k, k < 47 ∧ q = ad k
def Qx (P : Option Value → Hp → Prop) (dC : Nat → ClassId) (dI : Nat → Nat → Nat) (ad : Nat → Nat) (cA : Nat → ClassId) : Array Value → State → Outcome → State → Prop :=
  fun _ st oc t => (∃ (r : Option Value) (h' : Hp), oc = .returned (r.map (cvV ad)) ∧ P r h' ∧ va_P (dC, dI) vwCl (wl ad cA h') t.heap) ∧ va_F (AD ad) st t
/-- the contract: from the heap h with the arguments av the method returns, and its answer and heap are as P wants -/
def CC (mi : MI) (d : Nat) (av : List Value) (h : Hp) (P : Option Value → Hp → Prop) : Prop :=
  ∀ (l : Launch) (dC : Nat → ClassId) (dI : Nat → Nat → Nat) (ad : Nat → Nat) (cA : Nat → ClassId), Met l mi.1 (wsM mi) (rmd d) (va_Pc (av.map (cvV ad)) (fun U => va_P (dC, dI) vwCl (wl ad cA h) U.heap ∧ EnvOk dC dI ad cA U)) (Qx P dC dI ad cA) 0 0 (AD ad)
def Rok (mi : MI) (av : List Value) (h : Hp) : Prop := match mi.2.2.2.2 with
  | some ci => ∃ k, av.head? = some (.ref k) ∧ k < 47 ∧ ∃ fs, h k = .inr (ci, fs)
  | none => True
def CI (mi : MI) (d : Nat) (av : List Value) (h : Hp) (P : Int32 → Hp → Prop) : Prop := Rok mi av h ∧ CC mi d av h (fun r h' => ∃ x, r = some (.int x) ∧ P x h')
def CJ (mi : MI) (d : Nat) (av : List Value) (h : Hp) (P : Int64 → Hp → Prop) : Prop := Rok mi av h ∧ CC mi d av h (fun r h' => ∃ x, r = some (.long x) ∧ P x h')
def CV (mi : MI) (d : Nat) (av : List Value) (h : Hp) (P : Hp → Prop) : Prop := Rok mi av h ∧ CC mi d av h (fun r h' => r = none ∧ P h')
def KM (ret : Option FieldType) (P : Option Value → Hp → Prop) : CxT := fun dC dI ad cA A _ _ _ _ s _ args below meth _ cells slots Q =>
  cells = 0 ∧ slots = 0 ∧ A = AD ad ∧ Q = MQ below (Qx P dC dI ad cA) args s 0 0 A ∧ meth.sig.returnType = ret ∧ meth.locks = false
theorem EnvOk.moved {dC : Nat → ClassId} {dI : Nat → Nat → Nat} {ad : Nat → Nat} {cA : Nat → ClassId} {u U : State} (hvm : u.vm.Alike U.vm) (h : EnvOk dC dI ad cA u) : EnvOk dC dI ad cA U := ⟨va_K.moved hvm h.1, h.2⟩
theorem lg_len (ad : Nat → Nat) : ∀ (av : List Value), (lg_sl (av.map (cvV ad))).length = (lg_sl av).length
  | [] => rfl
  | v :: vs => by
    have ih := lg_len ad vs
    simp only [lg_sl, List.map_cons, List.flatMap_cons, List.length_append] at ih ⊢
    rw [ih]
    congr 1
    cases v <;> rfl
theorem lv_cvL (ad : Nat → Nat) : ∀ (i : Nat) (av : List Value), lv_args i (av.map (cvV ad)) = cvL ad (lv_args i av)
  | _, [] => rfl
  | i, v :: vs => by
    have ih := lv_cvL ad (if v.category = 2 then i + 2 else i + 1) vs
    simp only [List.map_cons, lv_args, cvL, cv_cat] at ih ⊢
    rw [ih]
theorem CC.mono {mi : MI} {d : Nat} {av : List Value} {h : Hp} {P P' : Option Value → Hp → Prop} (hc : CC mi d av h P) (hp : ∀ r h', P r h' → P' r h') : CC mi d av h P' := by
  intro l dC dI ad cA p e ha hc1 hk s m args below hf h1 h2 h3
  obtain ⟨k, o, a1, a2, a3, ⟨⟨⟨r, h', b1, b2, b3⟩, b4⟩, b5⟩⟩ := hc l dC dI ad cA p e ha hc1 hk s m args below hf h1 h2 h3
  exact ⟨k, o, a1, a2, a3, ⟨⟨⟨r, h', b1, hp r h' b2, b3⟩, b4⟩, b5⟩⟩
theorem CI.mono {mi : MI} {d : Nat} {av : List Value} {h : Hp} {P P' : Int32 → Hp → Prop} (hc : CI mi d av h P) (hp : ∀ r h', P r h' → P' r h') : CI mi d av h P' := ⟨hc.1, hc.2.mono (fun _ _ ⟨x, e, q⟩ => ⟨x, e, hp x _ q⟩)⟩
theorem CJ.mono {mi : MI} {d : Nat} {av : List Value} {h : Hp} {P P' : Int64 → Hp → Prop} (hc : CJ mi d av h P) (hp : ∀ r h', P r h' → P' r h') : CJ mi d av h P' := ⟨hc.1, hc.2.mono (fun _ _ ⟨x, e, q⟩ => ⟨x, e, hp x _ q⟩)⟩
theorem CV.mono {mi : MI} {d : Nat} {av : List Value} {h : Hp} {P P' : Hp → Prop} (hc : CV mi d av h P) (hp : ∀ h', P h' → P' h') : CV mi d av h P' := ⟨hc.1, hc.2.mono (fun _ _ ⟨e, q⟩ => ⟨e, hp _ q⟩)⟩
def MOk (mi : MI) : Prop := plainName mi.1.cls = true ∧ Cond.code mi.1 mi.2.1 mi.2.2.1 mi.2.2.2.1 ∈ lw_g ∧ mi.2.2.1 ≤ 40
theorem x_enter {mi : MI} {d : Nat} {av : List Value} {h : Hp} {P : Option Value → Hp → Prop} (hm : plainName mi.1.cls = true) (hlen : (lg_sl av).length ≤ mi.2.2.1)
    (k : X (KM mi.2.2.2.1 P) mi.1.cls mi.2.1 mi.2.2.1 d h 0 (lv_args 0 av) []) : CC mi d av h P := by
  intro l dC dI ad cA
  refine Met.ofW (cc := mi.2.1) (maxL := mi.2.2.1) (ret := mi.2.2.2.1) hm rfl ?_
  intro p e s m args below meth c s₁ B hml hv
  obtain ⟨rfl, hP, hE⟩ := hv
  have hts := atoms_spec (ws := wsM mi) B.pre
  have hl := lv_entry (av.map (cvV ad)) (n := mi.2.2.1) (by rw [lg_len]; exact hlen)
  rw [lg_entry_eq]
  generalize (lg_sl (av.map (cvV ad)) ++ List.replicate (mi.2.2.1 - (lg_sl (av.map (cvV ad))).length) Slot.unset).toArray = ls at hl ⊢
  rw [lv_cvL] at hl
  exact k dC dI ad cA (AD ad) p l e (rmd d) s m _ below meth c 0 0 _ ⟨rfl, rfl, rfl, rfl, B.returns, B.notSynchronized⟩
    ⟨B.exec, B.bytes, hml, findClass_of_methodNamed B.named, fun w hw => hts w (List.mem_cons_of_mem _ hw), Nat.le_refl _, Nat.le_refl _, hE, fun i hi => ⟨i, hi, rfl⟩, Nat.le_refl _, Nat.le_refl _⟩ s.heap [] ls ⟨hP, va_S.rf⟩ hl
theorem Qx_of {P : Option Value → Hp → Prop} {dC : Nat → ClassId} {dI : Nat → Nat → Nat} {ad : Nat → Nat} {cA : Nat → ClassId} {args : Array Value} {s t : State} {h : Hp} {H : Heap} {locs : List Loc} {r : Option Value} (hW : Wd dC dI ad cA (AD ad) s h H locs) (hp : P r h) (ht : t.heap = H) : Qx P dC dI ad cA args s (.returned (r.map (cvV ad))) t :=
  ⟨⟨r, h, rfl, hp, by rw [ht]; exact hW.1⟩, hW.2.F ht⟩
theorem x_vret {P : Option Value → Hp → Prop} {own : String} {cc : ByteArray} {nL d : Nat} {h : Hp} {pc : Nat} {lv : List (Nat × Value)} (hd : decode cc pc = .ok (.return_, 1)) (hp : P none h) : X (KM none P) own cc nL d h pc lv [] := by
  intro dC dI ad cA A p l e R s m args below meth c cells slots Q hK hB H locs ls hW hl
  obtain ⟨rfl, rfl, rfl, rfl, hr, hlk⟩ := hK
  exact W.vret hB.1 hB.2.1 hr (fun t ht _ => Qx_of (r := none) hW hp ht) hW.2.2.2 hd
theorem x_iret {P : Option Value → Hp → Prop} {own : String} {cc : ByteArray} {nL d : Nat} {h : Hp} {pc : Nat} {lv : List (Nat × Value)} {v : Int32} (hd : decode cc pc = .ok (.ireturn, 1)) (hp : P (some (.int v)) h) : X (KM (some .int) P) own cc nL d h pc lv [.int v] := by
  intro dC dI ad cA A p l e R s m args below meth c cells slots Q hK hB H locs ls hW hl
  obtain ⟨rfl, rfl, rfl, rfl, hr, hlk⟩ := hK
  exact W.iret (v := v) hB.1 hB.2.1 hr (fun t ht _ => Qx_of (r := some (.int v)) hW hp ht) hW.2.2.2 hd
theorem x_zret {P : Option Value → Hp → Prop} {own : String} {cc : ByteArray} {nL d : Nat} {h : Hp} {pc : Nat} {lv : List (Nat × Value)} {v : Int32} (hd : decode cc pc = .ok (.ireturn, 1)) (hz : v = 0 ∨ v = 1) (hp : P (some (.int v)) h) : X (KM (some .boolean) P) own cc nL d h pc lv [.int v] := by
  intro dC dI ad cA A p l e R s m args below meth c cells slots Q hK hB H locs ls hW hl
  obtain ⟨rfl, rfl, rfl, rfl, hr, hlk⟩ := hK
  exact W.zret (v := v) hB.1 hB.2.1 hr (by rcases hz with rfl | rfl <;> rfl) (fun t ht _ => Qx_of (r := some (.int v)) hW hp ht) hW.2.2.2 hd
theorem x_lret {P : Option Value → Hp → Prop} {own : String} {cc : ByteArray} {nL d : Nat} {h : Hp} {pc : Nat} {lv : List (Nat × Value)} {v : Int64} (hd : decode cc pc = .ok (.lreturn, 1)) (hp : P (some (.long v)) h) : X (KM (some .long) P) own cc nL d h pc lv [.long v] := by
  intro dC dI ad cA A p l e R s m args below meth c cells slots Q hK hB H locs ls hW hl
  obtain ⟨rfl, rfl, rfl, rfl, hr, hlk⟩ := hK
  exact W.lret (v := v) hB.1 hB.2.1 hr (fun t ht _ => Qx_of (r := some (.long v)) hW hp ht) hW.2.2.2 hd
section XH
variable {K : CxT} {own : String} {cc : ByteArray} {nL d : Nat} {h : Hp} {pc : Nat} {lv : List (Nat × Value)} {st : List Value}

theorem x_getI {idx ci j r : Nat} {x : Int32} (hf : FL own idx ci j) (hd : decode cc pc = .ok (.getfield idx, 3)) (hg : gI h ci r j = some x) (k : X K own cc nL d h (pc + 3) lv (.int x :: st)) : X K own cc nL d h pc lv (.ref r :: st) := by
  intro dC dI ad cA A p l e R s m args below meth c cells slots Q hK hB H locs ls hW hl
  obtain ⟨C, T, N, hc, hj, hin, hw⟩ := hf
  obtain ⟨hr, fs, he, hv⟩ := gV_spec (gI_spec hg)
  have hat : (wl ad cA h)[r]? = some (ad r, .inr (ci, fs.map (cvV ad))) := by rw [wl_at hr, he]; rfl
  exact va_get (v := cvV ad (.int x)) hB.1 hB.2.1 hB.2.2.2.2.1 hin hB.2.2.2.1 hB.2.2.2.2.2.2.2.1.1 hW.1 r hat hc j hj (hB.2.2.2.2.1 _ hw) (fun _ h9 => h9) (by rw [List.getElem?_map, hv]; rfl) hd (k dC dI ad cA A p l e R s m args below meth c cells slots Q hK hB H locs ls hW hl)
theorem x_getR {idx ci j r : Nat} {x : Nat} (hf : FL own idx ci j) (hd : decode cc pc = .ok (.getfield idx, 3)) (hg : gR h ci r j = some x) (k : X K own cc nL d h (pc + 3) lv (.ref x :: st)) : X K own cc nL d h pc lv (.ref r :: st) := by
  intro dC dI ad cA A p l e R s m args below meth c cells slots Q hK hB H locs ls hW hl
  obtain ⟨C, T, N, hc, hj, hin, hw⟩ := hf
  obtain ⟨hr, fs, he, hv⟩ := gV_spec (gR_spec hg)
  have hat : (wl ad cA h)[r]? = some (ad r, .inr (ci, fs.map (cvV ad))) := by rw [wl_at hr, he]; rfl
  exact va_get (v := cvV ad (.ref x)) hB.1 hB.2.1 hB.2.2.2.2.1 hin hB.2.2.2.1 hB.2.2.2.2.2.2.2.1.1 hW.1 r hat hc j hj (hB.2.2.2.2.1 _ hw) (fun _ h9 => h9) (by rw [List.getElem?_map, hv]; rfl) hd (k dC dI ad cA A p l e R s m args below meth c cells slots Q hK hB H locs ls hW hl)
theorem x_putI {idx ci j r : Nat} {h' : Hp} {x : Int32} {ty : FieldType} (hf : FP own idx ci j ty) (hn : narrow ty (.int x) = .int x) (hfit : fits ty (.int x) = true) (hd : decode cc pc = .ok (.putfield idx, 3)) (hg : sF h ci r j (.int x) = some h') (k : X K own cc nL d h' (pc + 3) lv st) : X K own cc nL d h pc lv (.int x :: .ref r :: st) := by
  intro dC dI ad cA A p l e R s m args below meth c cells slots Q hK hB H locs ls hW hl
  obtain ⟨C, T, N, ty0, hc, hj, hin, hw, hty, hnm, hfin, hpd⟩ := hf
  obtain ⟨hr, fs, he, hl2, rfl⟩ := sF_spec hg
  have hat : (wl ad cA h)[r]? = some (ad r, .inr (ci, fs.map (cvV ad))) := by rw [wl_at hr, he]; rfl
  refine va_put (v := .int x) hB.1 hB.2.1 hB.2.2.2.2.1 hin ty0 hty hnm hB.2.2.2.1 hB.2.2.2.2.2.2.2.1.1 hW.1 (hB.2.2.2.2.2.2.2.1.D hB.2.2.2.2.2.2.2.2.1 h) hW.2 r hat hc j hj (hB.2.2.2.2.1 _ hw) (fun _ h9 => h9) hfin hpd hn hfit (by rw [List.length_map]; exact hl2) hd (fun H1 locs1 hP1 _ hS1 => ?_)
  have hW' : Wd dC dI ad cA A s (hu h r (.inr (ci, fs.set j (.int x)))) H1 locs1 := ⟨by
    rw [← wl_set]
    have : (Value.int x) = cvV ad (.int x) := rfl
    rw [this, ← List.map_set] at hP1
    exact hP1, hS1⟩
  exact k dC dI ad cA A p l e R s m args below meth c cells slots Q hK hB H1 locs1 ls hW' hl
theorem x_iaload {r : Nat} {i : Int32} {x : Int32} (hd : decode cc pc = .ok (.iaload, 1)) (hg : lI h r i = some x) (k : X K own cc nL d h (pc + 1) lv (.int x :: st)) : X K own cc nL d h pc lv (.int i :: .ref r :: st) := by
  intro dC dI ad cA A p l e R s m args below meth c cells slots Q hK hB H locs ls hW hl
  obtain ⟨n, f, hr, he, hi, rfl⟩ := lT_spec hg
  have hat : (wl ad cA h)[r]? = some (ad r, .inl (cA 0, n, .inl f)) := by rw [wl_at hr, he]; rfl
  exact va_iald hB.1 hB.2.1 hB.2.2.2.2.2.2.2.1.1 hW.1 r 0 hat rfl (in_vp hi) hd (k dC dI ad cA A p l e R s m args below meth c cells slots Q hK hB H locs ls hW hl)
theorem x_baload {r : Nat} {i : Int32} {x : Int32} (hd : decode cc pc = .ok (.baload, 1)) (hg : lZ h r i = some x) (k : X K own cc nL d h (pc + 1) lv (.int x :: st)) : X K own cc nL d h pc lv (.int i :: .ref r :: st) := by
  intro dC dI ad cA A p l e R s m args below meth c cells slots Q hK hB H locs ls hW hl
  obtain ⟨n, f, hr, he, hi, rfl⟩ := lT_spec hg
  have hat : (wl ad cA h)[r]? = some (ad r, .inl (cA 2, n, .inl f)) := by rw [wl_at hr, he]; rfl
  exact va_zald hB.1 hB.2.1 hB.2.2.2.2.2.2.2.1.1 hW.1 r 2 hat rfl (in_vp hi) hd (k dC dI ad cA A p l e R s m args below meth c cells slots Q hK hB H locs ls hW hl)
theorem x_laload {r : Nat} {i : Int32} {x : Int64} (hd : decode cc pc = .ok (.laload, 1)) (hg : lJ h r i = some x) (k : X K own cc nL d h (pc + 1) lv (.long x :: st)) : X K own cc nL d h pc lv (.int i :: .ref r :: st) := by
  intro dC dI ad cA A p l e R s m args below meth c cells slots Q hK hB H locs ls hW hl
  obtain ⟨n, f, hr, he, hi, rfl⟩ := lJ_spec hg
  have hat : (wl ad cA h)[r]? = some (ad r, .inl (cA 1, n, .inr (.inl f))) := by rw [wl_at hr, he]; rfl
  exact va_lald hB.1 hB.2.1 hB.2.2.2.2.2.2.2.1.1 hW.1 r 1 hat rfl (in_vp hi) hd (k dC dI ad cA A p l e R s m args below meth c cells slots Q hK hB H locs ls hW hl)
theorem x_aaload3 {r : Nat} {i : Int32} {x : Nat} (hd : decode cc pc = .ok (.aaload, 1)) (hg : lQ 3 h r i = some x) (k : X K own cc nL d h (pc + 1) lv (.ref x :: st)) : X K own cc nL d h pc lv (.int i :: .ref r :: st) := by
  intro dC dI ad cA A p l e R s m args below meth c cells slots Q hK hB H locs ls hW hl
  obtain ⟨n, f, hr, he, hi, hx⟩ := lQ_spec hg
  have hat : (wl ad cA h)[r]? = some (ad r, .inl (cA 3, n, .inr (.inr (.inr (.inr (fun i => (f i).map ad)))))) := by rw [wl_at hr, he]; rfl
  have hlt : i.toNatClampNeg < n := hi.2
  have hk2 := hB.2.2.2.2.2.2.2.1.1.2 3 (cA 3, .object "EvenLines$Sheet") rfl
  exact W.aald (v := .ref (ad x)) (ty := .object "EvenLines$Sheet") hB.1 hB.2.1 (hW.1 r _ hat) (hk2.1 n (fun j => va_rf ((f j).map ad))) rfl (fun q => by cases q) (by show ¬ (i < 0 ∨ (arrV _ _ _).slots.size ≤ _); rw [arrV_size]; exact in_vp hi) (by show (arrV _ _ _).slots[_]? = _; rw [arrV_read _ _ hlt]; show some (va_rf ((f _).map ad)) = _; rw [hx]; rfl) rfl rfl hd (k dC dI ad cA A p l e R s m args below meth c cells slots Q hK hB H locs ls hW hl)
theorem x_aaload4 {r : Nat} {i : Int32} {x : Nat} (hd : decode cc pc = .ok (.aaload, 1)) (hg : lQ 4 h r i = some x) (k : X K own cc nL d h (pc + 1) lv (.ref x :: st)) : X K own cc nL d h pc lv (.int i :: .ref r :: st) := by
  intro dC dI ad cA A p l e R s m args below meth c cells slots Q hK hB H locs ls hW hl
  obtain ⟨n, f, hr, he, hi, hx⟩ := lQ_spec hg
  have hat : (wl ad cA h)[r]? = some (ad r, .inl (cA 4, n, .inr (.inr (.inr (.inr (fun i => (f i).map ad)))))) := by rw [wl_at hr, he]; rfl
  have hlt : i.toNatClampNeg < n := hi.2
  have hk2 := hB.2.2.2.2.2.2.2.1.1.2 4 (cA 4, .array .long) rfl
  exact W.aald (v := .ref (ad x)) (ty := .array .long) hB.1 hB.2.1 (hW.1 r _ hat) (hk2.1 n (fun j => va_rf ((f j).map ad))) rfl (fun q => by cases q) (by show ¬ (i < 0 ∨ (arrV _ _ _).slots.size ≤ _); rw [arrV_size]; exact in_vp hi) (by show (arrV _ _ _).slots[_]? = _; rw [arrV_read _ _ hlt]; show some (va_rf ((f _).map ad)) = _; rw [hx]; rfl) rfl rfl hd (k dC dI ad cA A p l e R s m args below meth c cells slots Q hK hB H locs ls hW hl)
theorem x_iastore {r : Nat} {h' : Hp} {i : Int32} {x : Int32} (hd : decode cc pc = .ok (.iastore, 1)) (hg : sI h r i x = some h') (k : X K own cc nL d h' (pc + 1) lv st) : X K own cc nL d h pc lv (.int x :: .int i :: .ref r :: st) := by
  intro dC dI ad cA A p l e R s m args below meth c cells slots Q hK hB H locs ls hW hl
  obtain ⟨n, f, hr, he, hi, rfl⟩ := sI_spec hg
  have hat : (wl ad cA h)[r]? = some (ad r, .inl (cA 0, n, .inl f)) := by rw [wl_at hr, he]; rfl
  refine va_iast hB.1 hB.2.1 hB.2.2.2.2.2.2.2.1.1 hW.1 (hB.2.2.2.2.2.2.2.1.D hB.2.2.2.2.2.2.2.2.1 h) hW.2 r 0 hat rfl (in_vp hi) hd (fun H1 locs1 hP1 _ hS1 => ?_)
  have hW' : Wd dC dI ad cA A s (hu h r (iA n (upd f i.toNatClampNeg x))) H1 locs1 := ⟨by rw [← wl_set]; exact hP1, hS1⟩
  exact k dC dI ad cA A p l e R s m args below meth c cells slots Q hK hB H1 locs1 ls hW' hl
theorem x_bastore {r : Nat} {h' : Hp} {i : Int32} {x : Int32} (hd : decode cc pc = .ok (.bastore, 1)) (hg : sZ h r i x = some h') (k : X K own cc nL d h' (pc + 1) lv st) : X K own cc nL d h pc lv (.int x :: .int i :: .ref r :: st) := by
  intro dC dI ad cA A p l e R s m args below meth c cells slots Q hK hB H locs ls hW hl
  obtain ⟨n, f, hr, he, hi, hx, rfl⟩ := sZ_spec hg
  have hat : (wl ad cA h)[r]? = some (ad r, .inl (cA 2, n, .inl f)) := by rw [wl_at hr, he]; rfl
  refine va_zast hB.1 hB.2.1 hB.2.2.2.2.2.2.2.1.1 hW.1 (hB.2.2.2.2.2.2.2.1.D hB.2.2.2.2.2.2.2.2.1 h) hW.2 r 2 hat rfl (in_vp hi) hd (fun H1 locs1 hP1 _ hS1 => ?_)
  have hnx : vp_nar .boolean x = x := by rcases hx with rfl | rfl <;> rfl
  rw [hnx] at hP1
  have hW' : Wd dC dI ad cA A s (hu h r (zA n (upd f i.toNatClampNeg x))) H1 locs1 := ⟨by rw [← wl_set]; exact hP1, hS1⟩
  exact k dC dI ad cA A p l e R s m args below meth c cells slots Q hK hB H1 locs1 ls hW' hl
theorem x_lastore {r : Nat} {h' : Hp} {i : Int32} {x : Int64} (hd : decode cc pc = .ok (.lastore, 1)) (hg : sJ h r i x = some h') (k : X K own cc nL d h' (pc + 1) lv st) : X K own cc nL d h pc lv (.long x :: .int i :: .ref r :: st) := by
  intro dC dI ad cA A p l e R s m args below meth c cells slots Q hK hB H locs ls hW hl
  obtain ⟨n, f, hr, he, hi, rfl⟩ := sJ_spec hg
  have hat : (wl ad cA h)[r]? = some (ad r, .inl (cA 1, n, .inr (.inl f))) := by rw [wl_at hr, he]; rfl
  refine va_last hB.1 hB.2.1 hB.2.2.2.2.2.2.2.1.1 hW.1 (hB.2.2.2.2.2.2.2.1.D hB.2.2.2.2.2.2.2.2.1 h) hW.2 r 1 hat rfl (in_vp hi) hd (fun H1 locs1 hP1 _ hS1 => ?_)
  have hW' : Wd dC dI ad cA A s (hu h r (jA n (vp_updL f i.toNatClampNeg x))) H1 locs1 := ⟨by rw [← wl_set]; exact hP1, hS1⟩
  exact k dC dI ad cA A p l e R s m args below meth c cells slots Q hK hB H1 locs1 ls hW' hl

theorem x_cont {rest st0 : List Value} {ls : Array Slot} {dC : Nat → ClassId} {dI : Nat → Nat → Nat} {ad : Nat → Nat} {cA : Nat → ClassId} {A : Nat → Prop} {p : Program} {l : Launch} {e : Env} {R : Room} {s : State} {m : MethodId} {args : Array Value} {below : List Frame} {meth : Method} {c : Code} {cells slots : Nat} {Q : State → Prop}
    {H : Heap} {locs : List Loc} {P : Option Value → Hp → Prop} {a : Array Value}
    (hK : K dC dI ad cA A p l e R s m args below meth c cells slots Q) (hB : Bs own cc nL d dC dI ad cA A p R s m args c cells slots) (hW : Wd dC dI ad cA A s h H locs) (hl : lv_has ls nL (cvL ad lv))
    (hr : va_Run p l e R s m args below meth c H locs cells slots 0 0 (F0 m pc ls st0) (rest.map (cvV ad)) (Qx P dC dI ad cA a) (AD ad))
    (kk : ∀ (r : Option Value) (h' : Hp), P r h' → X K own cc nL d h' (pc + 3) lv (r.toList ++ rest)) : W p l e R s m args below meth c H locs cells slots Q (F0 m pc ls st0) := by
  intro T hT X0
  obtain ⟨v, st₀, t, T', L, h0, X', hL, e1, e2, ⟨⟨r, h', hv, hp, hb⟩, hz, hk⟩, st⟩ := hr T hT X0
  cases hv
  rw [h0] at hz hk
  have hA : ∀ q, AD ad q → A q := fun q ⟨i, hi, hq⟩ => by rw [hq]; exact hB.2.2.2.2.2.2.2.2.1 i hi
  have hS := hW.2
  have hW' : Wd dC dI ad cA A s h' T'.heap (locs ++ L) := ⟨by rw [e1]; exact hb, ⟨Nat.le_trans hS.1 (by rw [e1]; exact hz), fun q h1 h2 => by rw [e1, hk q (Nat.lt_of_lt_of_le h1 hS.1) (fun z => h2 (hA q z))]; exact hS.2.1 q h1 h2, fun q hq => by
      rcases List.mem_append.mp hq with h | h
      · exact hS.2.2 q h
      · exact hA _ (hL q h)⟩⟩
  have := kk r h' hp dC dI ad cA A p l e R s m args below meth c cells slots Q hK hB T'.heap (locs ++ L) ls hW' hl
  have e9 : (r.toList ++ rest).map (cvV ad) = (r.map (cvV ad)).toList ++ rest.map (cvV ad) := by cases r <;> simp
  rw [e9] at this
  obtain ⟨t2, a1, b1⟩ := this T' rfl X'
  exact ⟨t2, st t2 a1, b1⟩
theorem lw_good : ∀ w ∈ lw_g, (w.onTables && w.keeps) = true ∨ ∃ ty, w = .arrayClass ty := by
  intro w hw
  exact good_of_word (List.mem_filter.mp hw).2
/-- the links of a call of a method on an object -/
def VL (own : String) (idx : Nat) (mi : MI) (n : Nat) : Prop := (∃ (ci : Nat) (T : u_T) (N : Nat), mi.2.2.2.2 = some ci ∧ vwCl[ci]? = some (mi.1.cls, T, N)) ∧ Cond.methodLink own idx mi.1 ∈ lw_g ∧ Cond.instanceMethod mi.1 ∈ lw_g ∧ Cond.selects mi.1.cls mi.1 mi.1 ∈ lw_g ∧ Cond.initialized mi.1.cls ∈ lw_g ∧ Cond.code mi.1 mi.2.1 mi.2.2.1 mi.2.2.2.1 ∈ lw_g ∧
  (mi.1.cls ≠ "java/lang/invoke/MethodHandle" ∧ mi.1.cls ≠ "java/lang/invoke/VarHandle" ∧ (parseMethodDescriptor mi.1.desc).map (fun d => d.parameters.length) = some n) ∧ mi.2.2.1 ≤ 40
def SL (own : String) (idx : Nat) (mi : MI) (n : Nat) : Prop := Cond.methodLink own idx mi.1 ∈ lw_g ∧ Cond.static mi.1 ∈ lw_g ∧ Cond.initialized mi.1.cls ∈ lw_g ∧ Cond.code mi.1 mi.2.1 mi.2.2.1 mi.2.2.2.1 ∈ lw_g ∧
  (mi.1.cls ≠ "java/lang/invoke/MethodHandle" ∧ mi.1.cls ≠ "java/lang/invoke/VarHandle" ∧ (parseMethodDescriptor mi.1.desc).map (fun d => d.parameters.length) = some n) ∧ mi.2.2.1 ≤ 40
theorem fb_pc {l : List Value} {dC : Nat → ClassId} {dI : Nat → Nat → Nat} {ad : Nat → Nat} {cA : Nat → ClassId} {h : Hp} : FrameBlind (va_Pc l (fun U => va_P (dC, dI) vwCl (wl ad cA h) U.heap ∧ EnvOk dC dI ad cA U)) :=
  fun a U g mk q => ⟨q.1, q.2.1, q.2.2.moved (u := U) (U := U.calling g mk a) (Vm.Alike.refl U.vm)⟩
theorem x_callV {mi : MI} {idx n b : Nat} {As stk : List Value} {P : Option Value → Hp → Prop} (hv : VL own idx mi n) (hd : decode cc pc = .ok (.invokevirtual idx, 3)) (hn : As.length = n) (hs : stk = As.reverse ++ .ref b :: st) (hr : (st.map fun v => v.category).sum ≤ 8)
    (ho : Rok mi (.ref b :: As) h) (hc : CC mi d (.ref b :: As) h P) (kk : ∀ (r : Option Value) (h' : Hp), P r h' → X K own cc nL (d + 1) h' (pc + 3) lv (r.toList ++ st)) : X K own cc nL (d + 1) h pc lv stk := by
  intro dC dI ad cA A p l e R s m args below meth c cells slots Q hK hB H locs ls hW hl
  obtain ⟨⟨ci, T, N, hci, hcl⟩, w1, w2, w3, w4, w5, hdd, h40⟩ := hv
  have hG : GoodIn lw_g (wsV own idx mi.1.cls mi.1 (wsM mi)) := by
    intro w hw
    have : w ∈ lw_g := by
      unfold wsV wsM at hw
      simp only [List.mem_append, List.mem_cons, List.not_mem_nil, or_false] at hw
      rcases hw with (rfl | rfl | rfl | rfl) | rfl | hw <;> assumption
    exact ⟨this, lw_good w this⟩
  have hB' := hB
  obtain ⟨hx, hb, hml, hown, hts, hfr, hlo, hE, hA, hcs, hss⟩ := hB'
  have cw := cwV (R := R) (own := own) (index := idx) (C := mi.1.cls) (bytes := mi.2.1) (maxL := mi.2.2.1) (ret := mi.2.2.2.1) (rm := rmd d) (mc := 0) (ms := 0) n hts hG rfl rfl rfl ⟨rfl, hdd⟩ ⟨hfr, by show 8 + (mi.2.2.1 + 11) + 64 * d ≤ R.locals; omega⟩
  unfold Rok at ho
  rw [hci] at ho
  obtain ⟨b', hb1, hb47, fs, hcell⟩ := ho
  cases hb1
  have hat : (wl ad cA h)[b]? = some (ad b, .inr (ci, fs.map (cvV ad))) := by rw [wl_at hb47, hcell]; rfl
  have hrun := va_runV (g := F0 m pc ls (stk.map (cvV ad))) (locs := locs) (cells := cells) (slots := slots) (below := below) (meth := meth) (e := e) (As := As.map (cvV ad)) (rest := st.map (cvV ad)) (b := ad b) (H := H) ⟨hx, hb, hml, hown, hts⟩ (hc l dC dI ad cA) cw ⟨fb_pc, va_recv hE.1 hW.1 hcl hat, fun U hU hWm => ⟨rfl, by rw [hU]; exact hW.1, hE.moved hWm.alike⟩⟩ rfl (by rw [List.length_map]; exact hn) hl.1 (by rw [hs]; simp [List.map_reverse, cvV]) (by
    have e0 : (F0 m pc ls (stk.map (cvV ad))).monitorRoom = 0 := rfl
    rw [e0, List.map_map]
    have : ((fun v : Value => v.category) ∘ cvV ad) = fun v => v.category := funext fun v => cv_cat ad v
    rw [this]
    omega) hd ⟨hcs, hss⟩
  exact x_cont hK hB hW hl hrun kk
theorem x_callS {mi : MI} {idx n : Nat} {As stk : List Value} {P : Option Value → Hp → Prop} (hv : SL own idx mi n) (hd : decode cc pc = .ok (.invokestatic idx, 3)) (hn : As.length = n) (hs : stk = As.reverse ++ st) (hr : (st.map fun v => v.category).sum ≤ 8)
    (hc : CC mi d As h P) (kk : ∀ (r : Option Value) (h' : Hp), P r h' → X K own cc nL (d + 1) h' (pc + 3) lv (r.toList ++ st)) : X K own cc nL (d + 1) h pc lv stk := by
  intro dC dI ad cA A p l e R s m args below meth c cells slots Q hK hB H locs ls hW hl
  obtain ⟨w1, w3, w4, w5, hdd, h40⟩ := hv
  have hG : GoodIn lw_g (va_wsS own idx mi.1 (wsM mi)) := by
    intro w hw
    have : w ∈ lw_g := by
      unfold va_wsS wsM at hw
      simp only [List.mem_append, List.mem_cons, List.not_mem_nil, or_false] at hw
      rcases hw with (rfl | rfl | rfl) | rfl | hw <;> assumption
    exact ⟨this, lw_good w this⟩
  have hB' := hB
  obtain ⟨hx, hb, hml, hown, hts, hfr, hlo, hE, hA, hcs, hss⟩ := hB'
  have cw := va_cwS (R := R) (own := own) (index := idx) (bytes := mi.2.1) (maxL := mi.2.2.1) (ret := mi.2.2.2.1) (rm := rmd d) (mc := 0) (ms := 0) n hts hG rfl rfl rfl hdd ⟨hfr, by show 8 + (mi.2.2.1 + 11) + 64 * d ≤ R.locals; omega⟩
  have hrun := va_runS (g := F0 m pc ls (stk.map (cvV ad))) (locs := locs) (cells := cells) (slots := slots) (below := below) (meth := meth) (e := e) (As := As.map (cvV ad)) (rest := st.map (cvV ad)) (H := H) ⟨hx, hb, hml, hown, hts⟩ (hc l dC dI ad cA) cw ⟨fb_pc, fun U hU hWm => ⟨rfl, by rw [hU]; exact hW.1, hE.moved hWm.alike⟩⟩ rfl (by rw [List.length_map]; exact hn) hl.1 (by rw [hs]; simp [List.map_reverse]) (by
    have e0 : (F0 m pc ls (stk.map (cvV ad))).monitorRoom = 0 := rfl
    rw [e0, List.map_map]
    have : ((fun v : Value => v.category) ∘ cvV ad) = fun v => v.category := funext fun v => cv_cat ad v
    rw [this]
    omega) hd ⟨hcs, hss⟩
  exact x_cont hK hB hW hl hrun kk
theorem x_vI {mi : MI} {idx n b : Nat} {As stk : List Value} (hv : VL own idx mi n) (hd : decode cc pc = .ok (.invokevirtual idx, 3)) (hn : As.length = n) (hs : stk = As.reverse ++ .ref b :: st) (hr : (st.map fun v => v.category).sum ≤ 8)
    (hc : CI mi d (.ref b :: As) h (fun x h' => X K own cc nL (d + 1) h' (pc + 3) lv (.int x :: st))) : X K own cc nL (d + 1) h pc lv stk := x_callV hv hd hn hs hr hc.1 hc.2 (fun r h' ⟨x, e, k⟩ => by subst e; exact k)
theorem x_sI {mi : MI} {idx n : Nat} {As stk : List Value} (hv : SL own idx mi n) (hd : decode cc pc = .ok (.invokestatic idx, 3)) (hn : As.length = n) (hs : stk = As.reverse ++ st) (hr : (st.map fun v => v.category).sum ≤ 8)
    (hc : CI mi d As h (fun x h' => X K own cc nL (d + 1) h' (pc + 3) lv (.int x :: st))) : X K own cc nL (d + 1) h pc lv stk := x_callS hv hd hn hs hr hc.2 (fun r h' ⟨x, e, k⟩ => by subst e; exact k)
theorem x_vJ {mi : MI} {idx n b : Nat} {As stk : List Value} (hv : VL own idx mi n) (hd : decode cc pc = .ok (.invokevirtual idx, 3)) (hn : As.length = n) (hs : stk = As.reverse ++ .ref b :: st) (hr : (st.map fun v => v.category).sum ≤ 8)
    (hc : CJ mi d (.ref b :: As) h (fun x h' => X K own cc nL (d + 1) h' (pc + 3) lv (.long x :: st))) : X K own cc nL (d + 1) h pc lv stk := x_callV hv hd hn hs hr hc.1 hc.2 (fun r h' ⟨x, e, k⟩ => by subst e; exact k)
theorem x_sJ {mi : MI} {idx n : Nat} {As stk : List Value} (hv : SL own idx mi n) (hd : decode cc pc = .ok (.invokestatic idx, 3)) (hn : As.length = n) (hs : stk = As.reverse ++ st) (hr : (st.map fun v => v.category).sum ≤ 8)
    (hc : CJ mi d As h (fun x h' => X K own cc nL (d + 1) h' (pc + 3) lv (.long x :: st))) : X K own cc nL (d + 1) h pc lv stk := x_callS hv hd hn hs hr hc.2 (fun r h' ⟨x, e, k⟩ => by subst e; exact k)
theorem x_vV {mi : MI} {idx n b : Nat} {As stk : List Value} (hv : VL own idx mi n) (hd : decode cc pc = .ok (.invokevirtual idx, 3)) (hn : As.length = n) (hs : stk = As.reverse ++ .ref b :: st) (hr : (st.map fun v => v.category).sum ≤ 8)
    (hc : CV mi d (.ref b :: As) h (fun h' => X K own cc nL (d + 1) h' (pc + 3) lv st)) : X K own cc nL (d + 1) h pc lv stk := x_callV hv hd hn hs hr hc.1 hc.2 (fun r h' ⟨e, k⟩ => by subst e; exact k)
theorem x_sV {mi : MI} {idx n : Nat} {As stk : List Value} (hv : SL own idx mi n) (hd : decode cc pc = .ok (.invokestatic idx, 3)) (hn : As.length = n) (hs : stk = As.reverse ++ st) (hr : (st.map fun v => v.category).sum ≤ 8)
    (hc : CV mi d As h (fun h' => X K own cc nL (d + 1) h' (pc + 3) lv st)) : X K own cc nL (d + 1) h pc lv stk := x_callS hv hd hn hs hr hc.2 (fun r h' ⟨e, k⟩ => by subst e; exact k)
theorem x_acopy {idx a b : Nat} {i j n : Int32} {h' : Hp} (hw : Cond.methodLink own idx arraycopyName ∈ lw_g) (hw2 : Cond.native arraycopyName ∈ lw_g) (hw3 : Cond.static arraycopyName ∈ lw_g) (hw4 : Cond.initialized "java/lang/System" ∈ lw_g) (hd : decode cc pc = .ok (.invokestatic idx, 3)) (hg : cpyI h a i b j n = some h')
    (k : X K own cc nL (d + 1) h' (pc + 3) lv []) : X K own cc nL (d + 1) h pc lv [.int n, .int j, .ref b, .int i, .ref a] := by
  intro dC dI ad cA A p l e R s m args below meth c cells slots Q hK hB H locs ls hW hl
  obtain ⟨na, f, nb, g, ha, hb, e1, e2, i1, i2, i3, i4, i5, rfl⟩ := cpyI_spec hg
  have hB' := hB
  obtain ⟨hx, hbb, hml, hown, hts, hfr, hlo, hE, hA, hcs, hss⟩ := hB'
  have hat : (wl ad cA h)[a]? = some (ad a, .inl (cA 0, na, .inl f)) := by rw [wl_at ha, e1]; rfl
  have hat2 : (wl ad cA h)[b]? = some (ad b, .inl (cA 0, nb, .inl g)) := by rw [wl_at hb, e2]; rfl
  refine va_copyi hx hbb (hml.trans hl.1.symm) hown (hts _ hw) (hts _ hw2) (hts _ hw3) (hts _ hw4) hE.1 hW.1 (hE.D hA h) hW.2 a b 0 0 hat hat2 rfl rfl rfl (Int32.not_lt.mpr i1) (Int32.not_lt.mpr i2) (Int32.not_lt.mpr i3) i4 i5 (fun _ _ => rfl) (by omega) (by
    have : nativeFrameWords "java/lang/System" "arraycopy" 5 ≤ 40 := by decide +kernel
    simp only [List.map_nil, List.sum_nil]
    omega) hd (fun H1 locs1 hP1 _ hS1 => ?_)
  have hW' : Wd dC dI ad cA A s (hu h b (iA nb (va_cpy f g i.toNatClampNeg j.toNatClampNeg n.toNatClampNeg))) H1 locs1 := ⟨by rw [← wl_set]; exact hP1, hS1⟩
  exact k dC dI ad cA A p l e R s m args below meth c cells slots Q hK hB H1 locs1 ls hW' hl
end XH
end
