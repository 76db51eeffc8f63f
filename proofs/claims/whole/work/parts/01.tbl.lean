-- ===== PART A: goes FIRST, ahead of the names: the tables' words, and 'selects' of the private methods out of them =====
/-- a private method of a class that the tables say can be made, by its rows of tables_1 -/
def lw_okq (q : MethodName × Nat) : Prop := (q.1.cls ≠ "java/lang/invoke/MethodHandle" ∧ q.1.cls ≠ "java/lang/invoke/VarHandle") ∧ Cond.instantiable q.1.cls q.2 ∈ tables_1 ∧ Cond.privateMethod q.1 ∈ tables_1 ∧ Cond.instanceMethod q.1 ∈ tables_1
theorem lw_p0 : lw_okq (⟨"EvenLines", "areTwoLines", "(II)Z"⟩, 7) := ⟨⟨by decide +kernel, by decide +kernel⟩, List.mem_of_getElem? (i := 11) (by decide +kernel), List.mem_of_getElem? (i := 145) (by decide +kernel), List.mem_of_getElem? (i := 146) (by decide +kernel)⟩
theorem lw_p1 : lw_okq (⟨"EvenLines$Sums", "setUnit", "([J)V"⟩, 5) := ⟨⟨by decide +kernel, by decide +kernel⟩, List.mem_of_getElem? (i := 39) (by decide +kernel), List.mem_of_getElem? (i := 227) (by decide +kernel), List.mem_of_getElem? (i := 228) (by decide +kernel)⟩
theorem lw_p2 : lw_okq (⟨"EvenLines$Sums", "multiply", "(LEvenLines$Table;[J[J)V"⟩, 5) := ⟨⟨by decide +kernel, by decide +kernel⟩, List.mem_of_getElem? (i := 39) (by decide +kernel), List.mem_of_getElem? (i := 231) (by decide +kernel), List.mem_of_getElem? (i := 232) (by decide +kernel)⟩
theorem lw_p3 : lw_okq (⟨"EvenLines$Sums", "rowTimesColumn", "(LEvenLines$Table;[JII)J"⟩, 5) := ⟨⟨by decide +kernel, by decide +kernel⟩, List.mem_of_getElem? (i := 39) (by decide +kernel), List.mem_of_getElem? (i := 235) (by decide +kernel), List.mem_of_getElem? (i := 236) (by decide +kernel)⟩
theorem lw_p4 : lw_okq (⟨"EvenLines$Sums", "trace", "([J)J"⟩, 5) := ⟨⟨by decide +kernel, by decide +kernel⟩, List.mem_of_getElem? (i := 39) (by decide +kernel), List.mem_of_getElem? (i := 239) (by decide +kernel), List.mem_of_getElem? (i := 240) (by decide +kernel)⟩
theorem lw_p5 : lw_okq (⟨"EvenLines$Sums", "takeFromUnits", "(J[J)V"⟩, 5) := ⟨⟨by decide +kernel, by decide +kernel⟩, List.mem_of_getElem? (i := 39) (by decide +kernel), List.mem_of_getElem? (i := 243) (by decide +kernel), List.mem_of_getElem? (i := 244) (by decide +kernel)⟩
theorem lw_p6 : lw_okq (⟨"EvenLines", "refusalOfOneMore", "()I"⟩, 7) := ⟨⟨by decide +kernel, by decide +kernel⟩, List.mem_of_getElem? (i := 11) (by decide +kernel), List.mem_of_getElem? (i := 289) (by decide +kernel), List.mem_of_getElem? (i := 290) (by decide +kernel)⟩
theorem lw_p7 : lw_okq (⟨"EvenLines$Sums", "sumWith", "(II)J"⟩, 5) := ⟨⟨by decide +kernel, by decide +kernel⟩, List.mem_of_getElem? (i := 39) (by decide +kernel), List.mem_of_getElem? (i := 297) (by decide +kernel), List.mem_of_getElem? (i := 298) (by decide +kernel)⟩
theorem lw_p8 : lw_okq (⟨"EvenLines$Sums", "bothSides", "([JI)J"⟩, 5) := ⟨⟨by decide +kernel, by decide +kernel⟩, List.mem_of_getElem? (i := 39) (by decide +kernel), List.mem_of_getElem? (i := 301) (by decide +kernel), List.mem_of_getElem? (i := 302) (by decide +kernel)⟩
theorem lw_p9 : lw_okq (⟨"EvenLines", "leastGoing", "(I)I"⟩, 7) := ⟨⟨by decide +kernel, by decide +kernel⟩, List.mem_of_getElem? (i := 11) (by decide +kernel), List.mem_of_getElem? (i := 322) (by decide +kernel), List.mem_of_getElem? (i := 323) (by decide +kernel)⟩
theorem lw_p10 : lw_okq (⟨"EvenLines$Numberings", "numberAsItIs", "(LEvenLines$Table;)I"⟩, 4) := ⟨⟨by decide +kernel, by decide +kernel⟩, List.mem_of_getElem? (i := 65) (by decide +kernel), List.mem_of_getElem? (i := 334) (by decide +kernel), List.mem_of_getElem? (i := 335) (by decide +kernel)⟩
theorem lw_p11 : lw_okq (⟨"EvenLines$Numberings", "bitsOf", "(LEvenLines$Table;I)I"⟩, 4) := ⟨⟨by decide +kernel, by decide +kernel⟩, List.mem_of_getElem? (i := 65) (by decide +kernel), List.mem_of_getElem? (i := 338) (by decide +kernel), List.mem_of_getElem? (i := 339) (by decide +kernel)⟩
theorem lw_p12 : lw_okq (⟨"EvenLines$Numberings", "lower", "(LEvenLines$Table;III)V"⟩, 4) := ⟨⟨by decide +kernel, by decide +kernel⟩, List.mem_of_getElem? (i := 65) (by decide +kernel), List.mem_of_getElem? (i := 345) (by decide +kernel), List.mem_of_getElem? (i := 346) (by decide +kernel)⟩
theorem lw_p13 : lw_okq (⟨"EvenLines$Numberings", "keep", "(LEvenLines$Table;II)V"⟩, 4) := ⟨⟨by decide +kernel, by decide +kernel⟩, List.mem_of_getElem? (i := 65) (by decide +kernel), List.mem_of_getElem? (i := 368) (by decide +kernel), List.mem_of_getElem? (i := 369) (by decide +kernel)⟩
theorem lw_p14 : lw_okq (⟨"EvenLines", "findingOf", "(I)I"⟩, 7) := ⟨⟨by decide +kernel, by decide +kernel⟩, List.mem_of_getElem? (i := 11) (by decide +kernel), List.mem_of_getElem? (i := 431) (by decide +kernel), List.mem_of_getElem? (i := 432) (by decide +kernel)⟩
theorem lw_p15 : lw_okq (⟨"EvenLinesModel", "set", "(III)V"⟩, 17) := ⟨⟨by decide +kernel, by decide +kernel⟩, List.mem_of_getElem? (i := 495) (by decide +kernel), List.mem_of_getElem? (i := 561) (by decide +kernel), List.mem_of_getElem? (i := 562) (by decide +kernel)⟩
def lw_privs_1 : List (MethodName × Nat) := [(⟨"EvenLines", "areTwoLines", "(II)Z"⟩, 7), (⟨"EvenLines$Sums", "setUnit", "([J)V"⟩, 5), (⟨"EvenLines$Sums", "multiply", "(LEvenLines$Table;[J[J)V"⟩, 5), (⟨"EvenLines$Sums", "rowTimesColumn", "(LEvenLines$Table;[JII)J"⟩, 5), (⟨"EvenLines$Sums", "trace", "([J)J"⟩, 5), (⟨"EvenLines$Sums", "takeFromUnits", "(J[J)V"⟩, 5), (⟨"EvenLines", "refusalOfOneMore", "()I"⟩, 7), (⟨"EvenLines$Sums", "sumWith", "(II)J"⟩, 5), (⟨"EvenLines$Sums", "bothSides", "([JI)J"⟩, 5), (⟨"EvenLines", "leastGoing", "(I)I"⟩, 7), (⟨"EvenLines$Numberings", "numberAsItIs", "(LEvenLines$Table;)I"⟩, 4), (⟨"EvenLines$Numberings", "bitsOf", "(LEvenLines$Table;I)I"⟩, 4), (⟨"EvenLines$Numberings", "lower", "(LEvenLines$Table;III)V"⟩, 4), (⟨"EvenLines$Numberings", "keep", "(LEvenLines$Table;II)V"⟩, 4), (⟨"EvenLines", "findingOf", "(I)I"⟩, 7), (⟨"EvenLinesModel", "set", "(III)V"⟩, 17)]
theorem lw_r1 : ∀ q ∈ lw_privs_1, lw_okq q := List.forall_mem_cons.mpr ⟨lw_p0, List.forall_mem_cons.mpr ⟨lw_p1, List.forall_mem_cons.mpr ⟨lw_p2, List.forall_mem_cons.mpr ⟨lw_p3, List.forall_mem_cons.mpr ⟨lw_p4, List.forall_mem_cons.mpr ⟨lw_p5, List.forall_mem_cons.mpr ⟨lw_p6, List.forall_mem_cons.mpr ⟨lw_p7, List.forall_mem_cons.mpr ⟨lw_p8, List.forall_mem_cons.mpr ⟨lw_p9, List.forall_mem_cons.mpr ⟨lw_p10, List.forall_mem_cons.mpr ⟨lw_p11, List.forall_mem_cons.mpr ⟨lw_p12, List.forall_mem_cons.mpr ⟨lw_p13, List.forall_mem_cons.mpr ⟨lw_p14, List.forall_mem_cons.mpr ⟨lw_p15, fun _ h => absurd h List.not_mem_nil⟩⟩⟩⟩⟩⟩⟩⟩⟩⟩⟩⟩⟩⟩⟩⟩
theorem lw_p16 : lw_okq (⟨"EvenLinesModel", "isLine", "(I)Z"⟩, 17) := ⟨⟨by decide +kernel, by decide +kernel⟩, List.mem_of_getElem? (i := 495) (by decide +kernel), List.mem_of_getElem? (i := 569) (by decide +kernel), List.mem_of_getElem? (i := 570) (by decide +kernel)⟩
theorem lw_p17 : lw_okq (⟨"EvenLinesModel", "togetherOf", "(II)I"⟩, 17) := ⟨⟨by decide +kernel, by decide +kernel⟩, List.mem_of_getElem? (i := 495) (by decide +kernel), List.mem_of_getElem? (i := 589) (by decide +kernel), List.mem_of_getElem? (i := 590) (by decide +kernel)⟩
theorem lw_p18 : lw_okq (⟨"EvenLinesModel", "isOdd", "(III)Z"⟩, 17) := ⟨⟨by decide +kernel, by decide +kernel⟩, List.mem_of_getElem? (i := 495) (by decide +kernel), List.mem_of_getElem? (i := 593) (by decide +kernel), List.mem_of_getElem? (i := 594) (by decide +kernel)⟩
theorem lw_p19 : lw_okq (⟨"EvenLinesModel", "reckon", "(II)V"⟩, 17) := ⟨⟨by decide +kernel, by decide +kernel⟩, List.mem_of_getElem? (i := 495) (by decide +kernel), List.mem_of_getElem? (i := 614) (by decide +kernel), List.mem_of_getElem? (i := 615) (by decide +kernel)⟩
theorem lw_p20 : lw_okq (⟨"EvenLinesModel", "liesAll", "(I)Z"⟩, 17) := ⟨⟨by decide +kernel, by decide +kernel⟩, List.mem_of_getElem? (i := 495) (by decide +kernel), List.mem_of_getElem? (i := 627) (by decide +kernel), List.mem_of_getElem? (i := 628) (by decide +kernel)⟩
theorem lw_p21 : lw_okq (⟨"EvenLinesModel", "rankOf", "(I)I"⟩, 17) := ⟨⟨by decide +kernel, by decide +kernel⟩, List.mem_of_getElem? (i := 495) (by decide +kernel), List.mem_of_getElem? (i := 635) (by decide +kernel), List.mem_of_getElem? (i := 636) (by decide +kernel)⟩
theorem lw_p22 : lw_okq (⟨"EvenLinesModel", "isRow", "(I)Z"⟩, 17) := ⟨⟨by decide +kernel, by decide +kernel⟩, List.mem_of_getElem? (i := 495) (by decide +kernel), List.mem_of_getElem? (i := 647) (by decide +kernel), List.mem_of_getElem? (i := 648) (by decide +kernel)⟩
theorem lw_p23 : lw_okq (⟨"EvenLinesModel", "fits", "(II)Z"⟩, 17) := ⟨⟨by decide +kernel, by decide +kernel⟩, List.mem_of_getElem? (i := 495) (by decide +kernel), List.mem_of_getElem? (i := 651) (by decide +kernel), List.mem_of_getElem? (i := 652) (by decide +kernel)⟩
theorem lw_p24 : lw_okq (⟨"EvenLinesModel", "nameOf", "(I)I"⟩, 17) := ⟨⟨by decide +kernel, by decide +kernel⟩, List.mem_of_getElem? (i := 495) (by decide +kernel), List.mem_of_getElem? (i := 671) (by decide +kernel), List.mem_of_getElem? (i := 672) (by decide +kernel)⟩
theorem lw_p25 : lw_okq (⟨"EvenLinesModel", "begin", "(I)V"⟩, 17) := ⟨⟨by decide +kernel, by decide +kernel⟩, List.mem_of_getElem? (i := 495) (by decide +kernel), List.mem_of_getElem? (i := 675) (by decide +kernel), List.mem_of_getElem? (i := 676) (by decide +kernel)⟩
theorem lw_p26 : lw_okq (⟨"EvenLinesModel", "codeOf", "(I)I"⟩, 17) := ⟨⟨by decide +kernel, by decide +kernel⟩, List.mem_of_getElem? (i := 495) (by decide +kernel), List.mem_of_getElem? (i := 679) (by decide +kernel), List.mem_of_getElem? (i := 680) (by decide +kernel)⟩
theorem lw_p27 : lw_okq (⟨"EvenLinesModel", "signBy", "(II)I"⟩, 17) := ⟨⟨by decide +kernel, by decide +kernel⟩, List.mem_of_getElem? (i := 495) (by decide +kernel), List.mem_of_getElem? (i := 683) (by decide +kernel), List.mem_of_getElem? (i := 684) (by decide +kernel)⟩
theorem lw_p28 : lw_okq (⟨"EvenLinesModel", "step", "(I)Z"⟩, 17) := ⟨⟨by decide +kernel, by decide +kernel⟩, List.mem_of_getElem? (i := 495) (by decide +kernel), List.mem_of_getElem? (i := 687) (by decide +kernel), List.mem_of_getElem? (i := 688) (by decide +kernel)⟩
theorem lw_p29 : lw_okq (⟨"EvenLinesModel", "spell", "(II)V"⟩, 17) := ⟨⟨by decide +kernel, by decide +kernel⟩, List.mem_of_getElem? (i := 495) (by decide +kernel), List.mem_of_getElem? (i := 695) (by decide +kernel), List.mem_of_getElem? (i := 696) (by decide +kernel)⟩
theorem lw_p30 : lw_okq (⟨"EvenLinesModel", "meets", "(I)I"⟩, 17) := ⟨⟨by decide +kernel, by decide +kernel⟩, List.mem_of_getElem? (i := 495) (by decide +kernel), List.mem_of_getElem? (i := 747) (by decide +kernel), List.mem_of_getElem? (i := 748) (by decide +kernel)⟩
theorem lw_p31 : lw_okq (⟨"EvenLinesModel", "lacks", "(III)I"⟩, 17) := ⟨⟨by decide +kernel, by decide +kernel⟩, List.mem_of_getElem? (i := 495) (by decide +kernel), List.mem_of_getElem? (i := 759) (by decide +kernel), List.mem_of_getElem? (i := 760) (by decide +kernel)⟩
def lw_privs_2 : List (MethodName × Nat) := [(⟨"EvenLinesModel", "isLine", "(I)Z"⟩, 17), (⟨"EvenLinesModel", "togetherOf", "(II)I"⟩, 17), (⟨"EvenLinesModel", "isOdd", "(III)Z"⟩, 17), (⟨"EvenLinesModel", "reckon", "(II)V"⟩, 17), (⟨"EvenLinesModel", "liesAll", "(I)Z"⟩, 17), (⟨"EvenLinesModel", "rankOf", "(I)I"⟩, 17), (⟨"EvenLinesModel", "isRow", "(I)Z"⟩, 17), (⟨"EvenLinesModel", "fits", "(II)Z"⟩, 17), (⟨"EvenLinesModel", "nameOf", "(I)I"⟩, 17), (⟨"EvenLinesModel", "begin", "(I)V"⟩, 17), (⟨"EvenLinesModel", "codeOf", "(I)I"⟩, 17), (⟨"EvenLinesModel", "signBy", "(II)I"⟩, 17), (⟨"EvenLinesModel", "step", "(I)Z"⟩, 17), (⟨"EvenLinesModel", "spell", "(II)V"⟩, 17), (⟨"EvenLinesModel", "meets", "(I)I"⟩, 17), (⟨"EvenLinesModel", "lacks", "(III)I"⟩, 17)]
theorem lw_r2 : ∀ q ∈ lw_privs_2, lw_okq q := List.forall_mem_cons.mpr ⟨lw_p16, List.forall_mem_cons.mpr ⟨lw_p17, List.forall_mem_cons.mpr ⟨lw_p18, List.forall_mem_cons.mpr ⟨lw_p19, List.forall_mem_cons.mpr ⟨lw_p20, List.forall_mem_cons.mpr ⟨lw_p21, List.forall_mem_cons.mpr ⟨lw_p22, List.forall_mem_cons.mpr ⟨lw_p23, List.forall_mem_cons.mpr ⟨lw_p24, List.forall_mem_cons.mpr ⟨lw_p25, List.forall_mem_cons.mpr ⟨lw_p26, List.forall_mem_cons.mpr ⟨lw_p27, List.forall_mem_cons.mpr ⟨lw_p28, List.forall_mem_cons.mpr ⟨lw_p29, List.forall_mem_cons.mpr ⟨lw_p30, List.forall_mem_cons.mpr ⟨lw_p31, fun _ h => absurd h List.not_mem_nil⟩⟩⟩⟩⟩⟩⟩⟩⟩⟩⟩⟩⟩⟩⟩⟩
def lw_privs : List (MethodName × Nat) := lw_privs_1 ++ (lw_privs_2)
def lw_tbl : List Cond := k2_sels lw_privs ++ tables_1
theorem lw_privs_ok : ∀ q ∈ lw_privs, lw_okq q := by
  show ∀ q ∈ lw_privs_1 ++ (lw_privs_2), lw_okq q
  exact List.forall_mem_append.mpr ⟨lw_r1, lw_r2⟩
def RX0 : String := "EvenLines$Numberings"
def TX0 : u_T := fun k => match k with
  | 0 => ("EvenLines$Numberings", "line", "[I", true)
  | 1 => ("EvenLines$Numberings", "wanted", "[I", true)
  | 2 => ("EvenLines$Numberings", "least", "I", false)
  | _ => ("EvenLines$Numberings", "keeping", "I", false)
def tyX0 : Nat → FieldType := fun k => match k with
  | 0 => .array .int
  | 1 => .array .int
  | 2 => .int
  | _ => .int
abbrev wsX00 : List Cond := u_ws RX0 TX0 4
theorem nmX0 : ∀ a, a < 4 → ∀ b, b < 4 → a ≠ b → (TX0 a).2.1 ≠ (TX0 b).2.1 := by decide +kernel
theorem tyX0_ok : ∀ k, k < 4 → parseFieldDescriptor (TX0 k).2.2.1 = some (tyX0 k) := by decide +kernel
abbrev cX0_init : ByteArray := prog_2_method_1_code
def yX0_init : MethodName := ⟨RX0, "<init>", "()V"⟩
abbrev cX0_least : ByteArray := prog_2_method_2_code
def yX0_least : MethodName := ⟨RX0, "least", "(LEvenLines$Table;)I"⟩
abbrev cX0_keeping : ByteArray := prog_2_method_3_code
def yX0_keeping : MethodName := ⟨RX0, "keeping", "(LEvenLines$Table;)I"⟩
abbrev cX0_numberAsItIs : ByteArray := prog_2_method_4_code
def yX0_numberAsItIs : MethodName := ⟨RX0, "numberAsItIs", "(LEvenLines$Table;)I"⟩
abbrev cX0_lower : ByteArray := prog_2_method_5_code
def yX0_lower : MethodName := ⟨RX0, "lower", "(LEvenLines$Table;III)V"⟩
abbrev cX0_keep : ByteArray := prog_2_method_6_code
def yX0_keep : MethodName := ⟨RX0, "keep", "(LEvenLines$Table;II)V"⟩
abbrev cX0_bitsOf : ByteArray := prog_2_method_7_code
def yX0_bitsOf : MethodName := ⟨RX0, "bitsOf", "(LEvenLines$Table;I)I"⟩
def RX1 : String := "EvenLines$Sheet"
def TX1 : u_T := fun k => match k with
  | 0 => ("EvenLines$Sheet", "items", "[I", true)
  | 1 => ("EvenLines$Sheet", "lost", "Z", false)
  | 2 => ("EvenLines$Sheet", "form", "I", false)
  | _ => ("EvenLines$Sheet", "size", "I", false)
def tyX1 : Nat → FieldType := fun k => match k with
  | 0 => .array .int
  | 1 => .boolean
  | 2 => .int
  | _ => .int
abbrev wsX10 : List Cond := u_ws RX1 TX1 4
theorem nmX1 : ∀ a, a < 4 → ∀ b, b < 4 → a ≠ b → (TX1 a).2.1 ≠ (TX1 b).2.1 := by decide +kernel
theorem tyX1_ok : ∀ k, k < 4 → parseFieldDescriptor (TX1 k).2.2.1 = some (tyX1 k) := by decide +kernel
abbrev cX1_init : ByteArray := prog_3_method_1_code
def yX1_init : MethodName := ⟨RX1, "<init>", "()V"⟩
abbrev cX1_start : ByteArray := prog_3_method_2_code
def yX1_start : MethodName := ⟨RX1, "start", "(II)V"⟩
abbrev cX1_hasItems : ByteArray := prog_3_method_3_code
def yX1_hasItems : MethodName := ⟨RX1, "hasItems", "(II)Z"⟩
abbrev cX1_wrongWithItem : ByteArray := prog_3_method_4_code
def yX1_wrongWithItem : MethodName := ⟨RX1, "wrongWithItem", "(II)I"⟩
abbrev cX1_setItem : ByteArray := prog_3_method_5_code
def yX1_setItem : MethodName := ⟨RX1, "setItem", "(II)V"⟩
def RX2 : String := "EvenLines$Sums"
def TX2 : u_T := fun k => match k with
  | 0 => ("EvenLines$Sums", "sum", "[J", true)
  | 1 => ("EvenLines$Sums", "rest", "[[J", true)
  | 2 => ("EvenLines$Sums", "quotient", "[J", true)
  | 3 => ("EvenLines$Sums", "size", "I", false)
  | _ => ("EvenLines$Sums", "diagonal", "I", false)
def tyX2 : Nat → FieldType := fun k => match k with
  | 0 => .array .long
  | 1 => .array (.array .long)
  | 2 => .array .long
  | 3 => .int
  | _ => .int
abbrev wsX20 : List Cond := u_ws RX2 TX2 5
theorem nmX2 : ∀ a, a < 5 → ∀ b, b < 5 → a ≠ b → (TX2 a).2.1 ≠ (TX2 b).2.1 := by decide +kernel
theorem tyX2_ok : ∀ k, k < 5 → parseFieldDescriptor (TX2 k).2.2.1 = some (tyX2 k) := by decide +kernel
abbrev cX2_init : ByteArray := prog_4_method_1_code
def yX2_init : MethodName := ⟨RX2, "<init>", "()V"⟩
abbrev cX2_take : ByteArray := prog_4_method_2_code
def yX2_take : MethodName := ⟨RX2, "take", "(LEvenLines$Table;I)V"⟩
abbrev cX2_setUnit : ByteArray := prog_4_method_3_code
def yX2_setUnit : MethodName := ⟨RX2, "setUnit", "([J)V"⟩
abbrev cX2_multiply : ByteArray := prog_4_method_4_code
def yX2_multiply : MethodName := ⟨RX2, "multiply", "(LEvenLines$Table;[J[J)V"⟩
abbrev cX2_rowTimesColumn : ByteArray := prog_4_method_5_code
def yX2_rowTimesColumn : MethodName := ⟨RX2, "rowTimesColumn", "(LEvenLines$Table;[JII)J"⟩
abbrev cX2_trace : ByteArray := prog_4_method_6_code
def yX2_trace : MethodName := ⟨RX2, "trace", "([J)J"⟩
abbrev cX2_takeFromUnits : ByteArray := prog_4_method_7_code
def yX2_takeFromUnits : MethodName := ⟨RX2, "takeFromUnits", "(J[J)V"⟩
abbrev cX2_noneBelowZero : ByteArray := prog_4_method_8_code
def yX2_noneBelowZero : MethodName := ⟨RX2, "noneBelowZero", "()Z"⟩
abbrev cX2_dimensions : ByteArray := prog_4_method_9_code
def yX2_dimensions : MethodName := ⟨RX2, "dimensions", "()I"⟩
abbrev cX2_timesOwn : ByteArray := prog_4_method_10_code
def yX2_timesOwn : MethodName := ⟨RX2, "timesOwn", "(I)I"⟩
abbrev cX2_letsIn : ByteArray := prog_4_method_11_code
def yX2_letsIn : MethodName := ⟨RX2, "letsIn", "(II)Z"⟩
abbrev cX2_sumWith : ByteArray := prog_4_method_12_code
def yX2_sumWith : MethodName := ⟨RX2, "sumWith", "(II)J"⟩
abbrev cX2_bothSides : ByteArray := prog_4_method_13_code
def yX2_bothSides : MethodName := ⟨RX2, "bothSides", "([JI)J"⟩
def RX3 : String := "EvenLines$Table"
def TX3 : u_T := fun k => match k with
  | 0 => ("EvenLines$Table", "minus", "[I", true)
  | _ => ("EvenLines$Table", "size", "I", false)
def tyX3 : Nat → FieldType := fun k => match k with
  | 0 => .array .int
  | _ => .int
abbrev wsX30 : List Cond := u_ws RX3 TX3 2
theorem nmX3 : ∀ a, a < 2 → ∀ b, b < 2 → a ≠ b → (TX3 a).2.1 ≠ (TX3 b).2.1 := by decide +kernel
theorem tyX3_ok : ∀ k, k < 2 → parseFieldDescriptor (TX3 k).2.2.1 = some (tyX3 k) := by decide +kernel
abbrev cX3_init : ByteArray := prog_5_method_1_code
def yX3_init : MethodName := ⟨RX3, "<init>", "()V"⟩
abbrev cX3_start : ByteArray := prog_5_method_2_code
def yX3_start : MethodName := ⟨RX3, "start", "(I)V"⟩
abbrev cX3_startNamed : ByteArray := prog_5_method_3_code
def yX3_startNamed : MethodName := ⟨RX3, "startNamed", "(II)V"⟩
abbrev cX3_bitOfPair : ByteArray := prog_5_method_4_code
def yX3_bitOfPair : MethodName := ⟨RX3, "bitOfPair", "(II)I"⟩
abbrev cX3_hasLine : ByteArray := prog_5_method_5_code
def yX3_hasLine : MethodName := ⟨RX3, "hasLine", "(I)Z"⟩
abbrev cX3_isRow : ByteArray := prog_5_method_6_code
def yX3_isRow : MethodName := ⟨RX3, "isRow", "(I)Z"⟩
abbrev cX3_isMinus : ByteArray := prog_5_method_7_code
def yX3_isMinus : MethodName := ⟨RX3, "isMinus", "(II)Z"⟩
abbrev cX3_entry : ByteArray := prog_5_method_8_code
def yX3_entry : MethodName := ⟨RX3, "entry", "(II)I"⟩
abbrev cX3_setMinus : ByteArray := prog_5_method_9_code
def yX3_setMinus : MethodName := ⟨RX3, "setMinus", "(IIZ)V"⟩
abbrev cX3_turnLine : ByteArray := prog_5_method_10_code
def yX3_turnLine : MethodName := ⟨RX3, "turnLine", "(I)V"⟩
abbrev cX3_swapLines : ByteArray := prog_5_method_11_code
def yX3_swapLines : MethodName := ⟨RX3, "swapLines", "(II)V"⟩
abbrev cX3_addLine : ByteArray := prog_5_method_12_code
def yX3_addLine : MethodName := ⟨RX3, "addLine", "(I)V"⟩
abbrev cX3_minusSigns : ByteArray := prog_5_method_13_code
def yX3_minusSigns : MethodName := ⟨RX3, "minusSigns", "()I"⟩
abbrev cX3_oddTriplesWith : ByteArray := prog_5_method_14_code
def yX3_oddTriplesWith : MethodName := ⟨RX3, "oddTriplesWith", "(II)I"⟩
abbrev cX3_oddTriples : ByteArray := prog_5_method_15_code
def yX3_oddTriples : MethodName := ⟨RX3, "oddTriples", "()I"⟩
def RX4 : String := "EvenLines"
def TX4 : u_T := fun k => match k with
  | 0 => ("EvenLines", "table", "LEvenLines$Table;", true)
  | 1 => ("EvenLines", "other", "LEvenLines$Table;", true)
  | 2 => ("EvenLines", "reckoned", "LEvenLines$Sums;", true)
  | 3 => ("EvenLines", "numberings", "LEvenLines$Numberings;", true)
  | 4 => ("EvenLines", "sheets", "[LEvenLines$Sheet;", true)
  | 5 => ("EvenLines", "angle", "I", false)
  | _ => ("EvenLines", "finding", "I", false)
def tyX4 : Nat → FieldType := fun k => match k with
  | 0 => .object "EvenLines$Table"
  | 1 => .object "EvenLines$Table"
  | 2 => .object "EvenLines$Sums"
  | 3 => .object "EvenLines$Numberings"
  | 4 => .array (.object "EvenLines$Sheet")
  | 5 => .int
  | _ => .int
abbrev wsX40 : List Cond := u_ws RX4 TX4 7
theorem nmX4 : ∀ a, a < 7 → ∀ b, b < 7 → a ≠ b → (TX4 a).2.1 ≠ (TX4 b).2.1 := by decide +kernel
theorem tyX4_ok : ∀ k, k < 7 → parseFieldDescriptor (TX4 k).2.2.1 = some (tyX4 k) := by decide +kernel
abbrev cX4_init : ByteArray := prog_1_method_1_code
def yX4_init : MethodName := ⟨RX4, "<init>", "()V"⟩
abbrev cX4_lines : ByteArray := prog_1_method_2_code
def yX4_lines : MethodName := ⟨RX4, "lines", "(I)I"⟩
abbrev cX4_sign : ByteArray := prog_1_method_3_code
def yX4_sign : MethodName := ⟨RX4, "sign", "(III)I"⟩
abbrev cX4_at : ByteArray := prog_1_method_4_code
def yX4_at : MethodName := ⟨RX4, "at", "(II)I"⟩
abbrev cX4_turn : ByteArray := prog_1_method_5_code
def yX4_turn : MethodName := ⟨RX4, "turn", "(I)I"⟩
abbrev cX4_change : ByteArray := prog_1_method_6_code
def yX4_change : MethodName := ⟨RX4, "change", "(II)I"⟩
abbrev cX4_odd : ByteArray := prog_1_method_7_code
def yX4_odd : MethodName := ⟨RX4, "odd", "()I"⟩
abbrev cX4_together : ByteArray := prog_1_method_8_code
def yX4_together : MethodName := ⟨RX4, "together", "(II)I"⟩
abbrev cX4_regular : ByteArray := prog_1_method_9_code
def yX4_regular : MethodName := ⟨RX4, "regular", "()I"⟩
abbrev cX4_areTwoLines : ByteArray := prog_1_method_10_code
def yX4_areTwoLines : MethodName := ⟨RX4, "areTwoLines", "(II)Z"⟩
abbrev cX4_isLineCount : ByteArray := prog_1_method_11_code
def yX4_isLineCount : MethodName := ⟨RX4, "isLineCount", "(I)Z"⟩
abbrev cX4_angle : ByteArray := prog_1_method_12_code
def yX4_angle : MethodName := ⟨RX4, "angle", "(I)I"⟩
abbrev cX4_sums : ByteArray := prog_1_method_13_code
def yX4_sums : MethodName := ⟨RX4, "sums", "(II)J"⟩
abbrev cX4_own : ByteArray := prog_1_method_14_code
def yX4_own : MethodName := ⟨RX4, "own", "(I)I"⟩
abbrev cX4_lies : ByteArray := prog_1_method_15_code
def yX4_lies : MethodName := ⟨RX4, "lies", "()I"⟩
abbrev cX4_rank : ByteArray := prog_1_method_16_code
def yX4_rank : MethodName := ⟨RX4, "rank", "()I"⟩
abbrev cX4_bound : ByteArray := prog_1_method_17_code
def yX4_bound : MethodName := ⟨RX4, "bound", "(I)I"⟩
abbrev cX4_isDimension : ByteArray := prog_1_method_18_code
def yX4_isDimension : MethodName := ⟨RX4, "isDimension", "(I)Z"⟩
abbrev cX4_goes : ByteArray := prog_1_method_19_code
def yX4_goes : MethodName := ⟨RX4, "goes", "(II)I"⟩
abbrev cX4_ways : ByteArray := prog_1_method_20_code
def yX4_ways : MethodName := ⟨RX4, "ways", "(I)I"⟩
abbrev cX4_put : ByteArray := prog_1_method_21_code
def yX4_put : MethodName := ⟨RX4, "put", "(I)I"⟩
abbrev cX4_grow : ByteArray := prog_1_method_22_code
def yX4_grow : MethodName := ⟨RX4, "grow", "(I)I"⟩
abbrev cX4_refusalOfOneMore : ByteArray := prog_1_method_23_code
def yX4_refusalOfOneMore : MethodName := ⟨RX4, "refusalOfOneMore", "()I"⟩
abbrev cX4_leastGoing : ByteArray := prog_1_method_24_code
def yX4_leastGoing : MethodName := ⟨RX4, "leastGoing", "(I)I"⟩
abbrev cX4_name : ByteArray := prog_1_method_25_code
def yX4_name : MethodName := ⟨RX4, "name", "()I"⟩
abbrev cX4_plain : ByteArray := prog_1_method_26_code
def yX4_plain : MethodName := ⟨RX4, "plain", "()I"⟩
abbrev cX4_group : ByteArray := prog_1_method_27_code
def yX4_group : MethodName := ⟨RX4, "group", "()I"⟩
abbrev cX4_kinds : ByteArray := prog_1_method_28_code
def yX4_kinds : MethodName := ⟨RX4, "kinds", "(I)I"⟩
abbrev cX4_hits : ByteArray := prog_1_method_29_code
def yX4_hits : MethodName := ⟨RX4, "hits", "(III)I"⟩
abbrev cX4_even : ByteArray := prog_1_method_30_code
def yX4_even : MethodName := ⟨RX4, "even", "(II)I"⟩
abbrev cX4_welch : ByteArray := prog_1_method_31_code
def yX4_welch : MethodName := ⟨RX4, "welch", "(II)I"⟩
abbrev cX4_multipliers : ByteArray := prog_1_method_32_code
def yX4_multipliers : MethodName := ⟨RX4, "multipliers", "(II)I"⟩
abbrev cX4_find : ByteArray := prog_1_method_33_code
def yX4_find : MethodName := ⟨RX4, "find", "(II)I"⟩
abbrev cX4_isRound : ByteArray := prog_1_method_34_code
def yX4_isRound : MethodName := ⟨RX4, "isRound", "(I)Z"⟩
abbrev cX4_isSet : ByteArray := prog_1_method_35_code
def yX4_isSet : MethodName := ⟨RX4, "isSet", "(II)Z"⟩
abbrev cX4_allOfRound : ByteArray := prog_1_method_36_code
def yX4_allOfRound : MethodName := ⟨RX4, "allOfRound", "(I)I"⟩
abbrev cX4_movedRound : ByteArray := prog_1_method_37_code
def yX4_movedRound : MethodName := ⟨RX4, "movedRound", "(III)I"⟩
abbrev cX4_hitsOfStep : ByteArray := prog_1_method_38_code
def yX4_hitsOfStep : MethodName := ⟨RX4, "hitsOfStep", "(III)I"⟩
abbrev cX4_evenHits : ByteArray := prog_1_method_39_code
def yX4_evenHits : MethodName := ⟨RX4, "evenHits", "(II)I"⟩
abbrev cX4_multiplied : ByteArray := prog_1_method_40_code
def yX4_multiplied : MethodName := ⟨RX4, "multiplied", "(III)I"⟩
abbrev cX4_isMovedRound : ByteArray := prog_1_method_41_code
def yX4_isMovedRound : MethodName := ⟨RX4, "isMovedRound", "(III)Z"⟩
abbrev cX4_sheet : ByteArray := prog_1_method_42_code
def yX4_sheet : MethodName := ⟨RX4, "sheet", "(III)I"⟩
abbrev cX4_lose : ByteArray := prog_1_method_43_code
def yX4_lose : MethodName := ⟨RX4, "lose", "(I)I"⟩
abbrev cX4_lay : ByteArray := prog_1_method_44_code
def yX4_lay : MethodName := ⟨RX4, "lay", "(IIII)I"⟩
abbrev cX4_get : ByteArray := prog_1_method_45_code
def yX4_get : MethodName := ⟨RX4, "get", "(III)I"⟩
abbrev cX4_copy : ByteArray := prog_1_method_46_code
def yX4_copy : MethodName := ⟨RX4, "copy", "(IIIII)I"⟩
abbrev cX4_load : ByteArray := prog_1_method_47_code
def yX4_load : MethodName := ⟨RX4, "load", "(II)I"⟩
abbrev cX4_write : ByteArray := prog_1_method_48_code
def yX4_write : MethodName := ⟨RX4, "write", "(I)I"⟩
abbrev cX4_count : ByteArray := prog_1_method_49_code
def yX4_count : MethodName := ⟨RX4, "count", "(I)I"⟩
abbrev cX4_digest : ByteArray := prog_1_method_50_code
def yX4_digest : MethodName := ⟨RX4, "digest", "()J"⟩
abbrev cX4_isSheet : ByteArray := prog_1_method_51_code
def yX4_isSheet : MethodName := ⟨RX4, "isSheet", "(I)Z"⟩
abbrev cX4_isForm : ByteArray := prog_1_method_52_code
def yX4_isForm : MethodName := ⟨RX4, "isForm", "(I)Z"⟩
abbrev cX4_findingOf : ByteArray := prog_1_method_53_code
def yX4_findingOf : MethodName := ⟨RX4, "findingOf", "(I)I"⟩
def RX5 : String := "EvenLinesModel"
def TX5 : u_T := fun k => match k with
  | 0 => ("EvenLinesModel", "many", "I", false)
  | 1 => ("EvenLinesModel", "table", "[I", true)
  | 2 => ("EvenLinesModel", "angle", "I", false)
  | 3 => ("EvenLinesModel", "matrix", "[J", true)
  | 4 => ("EvenLinesModel", "power", "[J", true)
  | 5 => ("EvenLinesModel", "next", "[J", true)
  | 6 => ("EvenLinesModel", "traces", "[J", true)
  | 7 => ("EvenLinesModel", "es", "[J", true)
  | 8 => ("EvenLinesModel", "rests", "[J", true)
  | 9 => ("EvenLinesModel", "order", "[I", true)
  | 10 => ("EvenLinesModel", "saved", "[I", true)
  | 11 => ("EvenLinesModel", "isThere", "[Z", true)
  | 12 => ("EvenLinesModel", "forms", "[I", true)
  | 13 => ("EvenLinesModel", "sizes", "[I", true)
  | 14 => ("EvenLinesModel", "items", "[I", true)
  | 15 => ("EvenLinesModel", "moved", "[I", true)
  | _ => ("EvenLinesModel", "finding", "I", false)
def tyX5 : Nat → FieldType := fun k => match k with
  | 0 => .int
  | 1 => .array .int
  | 2 => .int
  | 3 => .array .long
  | 4 => .array .long
  | 5 => .array .long
  | 6 => .array .long
  | 7 => .array .long
  | 8 => .array .long
  | 9 => .array .int
  | 10 => .array .int
  | 11 => .array .boolean
  | 12 => .array .int
  | 13 => .array .int
  | 14 => .array .int
  | 15 => .array .int
  | _ => .int
abbrev wsX50 : List Cond := u_ws RX5 TX5 17
theorem nmX5 : ∀ a, a < 17 → ∀ b, b < 17 → a ≠ b → (TX5 a).2.1 ≠ (TX5 b).2.1 := by decide +kernel
theorem tyX5_ok : ∀ k, k < 17 → parseFieldDescriptor (TX5 k).2.2.1 = some (tyX5 k) := by decide +kernel
abbrev cX5_init : ByteArray := prog_7_method_1_code
def yX5_init : MethodName := ⟨RX5, "<init>", "()V"⟩
abbrev cX5_in : ByteArray := prog_7_method_3_code
def yX5_in : MethodName := ⟨RX5, "in", "(III)Z"⟩
abbrev cX5_isLine : ByteArray := prog_7_method_4_code
def yX5_isLine : MethodName := ⟨RX5, "isLine", "(I)Z"⟩
abbrev cX5_set : ByteArray := prog_7_method_5_code
def yX5_set : MethodName := ⟨RX5, "set", "(III)V"⟩
abbrev cX5_lines : ByteArray := prog_7_method_6_code
def yX5_lines : MethodName := ⟨RX5, "lines", "(I)I"⟩
abbrev cX5_sign : ByteArray := prog_7_method_7_code
def yX5_sign : MethodName := ⟨RX5, "sign", "(III)I"⟩
abbrev cX5_at : ByteArray := prog_7_method_8_code
def yX5_at : MethodName := ⟨RX5, "at", "(II)I"⟩
abbrev cX5_turn : ByteArray := prog_7_method_9_code
def yX5_turn : MethodName := ⟨RX5, "turn", "(I)I"⟩
abbrev cX5_change : ByteArray := prog_7_method_10_code
def yX5_change : MethodName := ⟨RX5, "change", "(II)I"⟩
abbrev cX5_isOdd : ByteArray := prog_7_method_11_code
def yX5_isOdd : MethodName := ⟨RX5, "isOdd", "(III)Z"⟩
abbrev cX5_togetherOf : ByteArray := prog_7_method_12_code
def yX5_togetherOf : MethodName := ⟨RX5, "togetherOf", "(II)I"⟩
abbrev cX5_odd : ByteArray := prog_7_method_13_code
def yX5_odd : MethodName := ⟨RX5, "odd", "()I"⟩
abbrev cX5_together : ByteArray := prog_7_method_14_code
def yX5_together : MethodName := ⟨RX5, "together", "(II)I"⟩
abbrev cX5_regular : ByteArray := prog_7_method_15_code
def yX5_regular : MethodName := ⟨RX5, "regular", "()I"⟩
abbrev cX5_angle : ByteArray := prog_7_method_16_code
def yX5_angle : MethodName := ⟨RX5, "angle", "(I)I"⟩
abbrev cX5_reckon : ByteArray := prog_7_method_17_code
def yX5_reckon : MethodName := ⟨RX5, "reckon", "(II)V"⟩
abbrev cX5_sums : ByteArray := prog_7_method_18_code
def yX5_sums : MethodName := ⟨RX5, "sums", "(II)J"⟩
abbrev cX5_own : ByteArray := prog_7_method_19_code
def yX5_own : MethodName := ⟨RX5, "own", "(I)I"⟩
abbrev cX5_liesAll : ByteArray := prog_7_method_20_code
def yX5_liesAll : MethodName := ⟨RX5, "liesAll", "(I)Z"⟩
abbrev cX5_rankOf : ByteArray := prog_7_method_21_code
def yX5_rankOf : MethodName := ⟨RX5, "rankOf", "(I)I"⟩
abbrev cX5_lies : ByteArray := prog_7_method_22_code
def yX5_lies : MethodName := ⟨RX5, "lies", "()I"⟩
abbrev cX5_rank : ByteArray := prog_7_method_23_code
def yX5_rank : MethodName := ⟨RX5, "rank", "()I"⟩
abbrev cX5_bound : ByteArray := prog_7_method_24_code
def yX5_bound : MethodName := ⟨RX5, "bound", "(I)I"⟩
abbrev cX5_isRow : ByteArray := prog_7_method_25_code
def yX5_isRow : MethodName := ⟨RX5, "isRow", "(I)Z"⟩
abbrev cX5_fits : ByteArray := prog_7_method_26_code
def yX5_fits : MethodName := ⟨RX5, "fits", "(II)Z"⟩
abbrev cX5_goes : ByteArray := prog_7_method_27_code
def yX5_goes : MethodName := ⟨RX5, "goes", "(II)I"⟩
abbrev cX5_ways : ByteArray := prog_7_method_28_code
def yX5_ways : MethodName := ⟨RX5, "ways", "(I)I"⟩
abbrev cX5_put : ByteArray := prog_7_method_29_code
def yX5_put : MethodName := ⟨RX5, "put", "(I)I"⟩
abbrev cX5_grow : ByteArray := prog_7_method_30_code
def yX5_grow : MethodName := ⟨RX5, "grow", "(I)I"⟩
abbrev cX5_signBy : ByteArray := prog_7_method_31_code
def yX5_signBy : MethodName := ⟨RX5, "signBy", "(II)I"⟩
abbrev cX5_codeOf : ByteArray := prog_7_method_32_code
def yX5_codeOf : MethodName := ⟨RX5, "codeOf", "(I)I"⟩
abbrev cX5_begin : ByteArray := prog_7_method_33_code
def yX5_begin : MethodName := ⟨RX5, "begin", "(I)V"⟩
abbrev cX5_step : ByteArray := prog_7_method_34_code
def yX5_step : MethodName := ⟨RX5, "step", "(I)Z"⟩
abbrev cX5_nameOf : ByteArray := prog_7_method_35_code
def yX5_nameOf : MethodName := ⟨RX5, "nameOf", "(I)I"⟩
abbrev cX5_name : ByteArray := prog_7_method_36_code
def yX5_name : MethodName := ⟨RX5, "name", "()I"⟩
abbrev cX5_spell : ByteArray := prog_7_method_37_code
def yX5_spell : MethodName := ⟨RX5, "spell", "(II)V"⟩
abbrev cX5_plain : ByteArray := prog_7_method_38_code
def yX5_plain : MethodName := ⟨RX5, "plain", "()I"⟩
abbrev cX5_group : ByteArray := prog_7_method_39_code
def yX5_group : MethodName := ⟨RX5, "group", "()I"⟩
abbrev cX5_kinds : ByteArray := prog_7_method_40_code
def yX5_kinds : MethodName := ⟨RX5, "kinds", "(I)I"⟩
abbrev cX5_isSet : ByteArray := prog_7_method_41_code
def yX5_isSet : MethodName := ⟨RX5, "isSet", "(II)Z"⟩
abbrev cX5_hitsOf : ByteArray := prog_7_method_42_code
def yX5_hitsOf : MethodName := ⟨RX5, "hitsOf", "(III)I"⟩
abbrev cX5_hits : ByteArray := prog_7_method_43_code
def yX5_hits : MethodName := ⟨RX5, "hits", "(III)I"⟩
abbrev cX5_evenOf : ByteArray := prog_7_method_44_code
def yX5_evenOf : MethodName := ⟨RX5, "evenOf", "(II)I"⟩
abbrev cX5_even : ByteArray := prog_7_method_45_code
def yX5_even : MethodName := ⟨RX5, "even", "(II)I"⟩
abbrev cX5_welch : ByteArray := prog_7_method_46_code
def yX5_welch : MethodName := ⟨RX5, "welch", "(II)I"⟩
abbrev cX5_divisor : ByteArray := prog_7_method_47_code
def yX5_divisor : MethodName := ⟨RX5, "divisor", "(II)I"⟩
abbrev cX5_multipliers : ByteArray := prog_7_method_48_code
def yX5_multipliers : MethodName := ⟨RX5, "multipliers", "(II)I"⟩
abbrev cX5_find : ByteArray := prog_7_method_49_code
def yX5_find : MethodName := ⟨RX5, "find", "(II)I"⟩
abbrev cX5_meets : ByteArray := prog_7_method_50_code
def yX5_meets : MethodName := ⟨RX5, "meets", "(I)I"⟩
abbrev cX5_isSheet : ByteArray := prog_7_method_51_code
def yX5_isSheet : MethodName := ⟨RX5, "isSheet", "(I)Z"⟩
abbrev cX5_sheet : ByteArray := prog_7_method_52_code
def yX5_sheet : MethodName := ⟨RX5, "sheet", "(III)I"⟩
abbrev cX5_lose : ByteArray := prog_7_method_53_code
def yX5_lose : MethodName := ⟨RX5, "lose", "(I)I"⟩
abbrev cX5_lacks : ByteArray := prog_7_method_54_code
def yX5_lacks : MethodName := ⟨RX5, "lacks", "(III)I"⟩
abbrev cX5_lay : ByteArray := prog_7_method_55_code
def yX5_lay : MethodName := ⟨RX5, "lay", "(IIII)I"⟩
abbrev cX5_get : ByteArray := prog_7_method_56_code
def yX5_get : MethodName := ⟨RX5, "get", "(III)I"⟩
abbrev cX5_copy : ByteArray := prog_7_method_57_code
def yX5_copy : MethodName := ⟨RX5, "copy", "(IIIII)I"⟩
abbrev cX5_load : ByteArray := prog_7_method_58_code
def yX5_load : MethodName := ⟨RX5, "load", "(II)I"⟩
abbrev cX5_write : ByteArray := prog_7_method_59_code
def yX5_write : MethodName := ⟨RX5, "write", "(I)I"⟩
abbrev cX5_count : ByteArray := prog_7_method_60_code
def yX5_count : MethodName := ⟨RX5, "count", "(I)I"⟩
abbrev cX5_digest : ByteArray := prog_7_method_61_code
def yX5_digest : MethodName := ⟨RX5, "digest", "()J"⟩
def RJ6 : String := "java/lang/Integer"
def TJ6 : u_T := fun k => match k with
  | _ => ("", "", "", false)
def tyJ6 : Nat → FieldType := fun k => match k with
  | _ => .int
abbrev wsJ60 : List Cond := u_ws RJ6 TJ6 0
theorem nmJ6 : ∀ a, a < 0 → ∀ b, b < 0 → a ≠ b → (TJ6 a).2.1 ≠ (TJ6 b).2.1 := by decide +kernel
theorem tyJ6_ok : ∀ k, k < 0 → parseFieldDescriptor (TJ6 k).2.2.1 = some (tyJ6 k) := by decide +kernel
abbrev cJ6_bitCount_0f7a4 : ByteArray := prog_8_method_49_code
def yJ6_bitCount_0f7a4 : MethodName := ⟨RJ6, "bitCount", "(I)I"⟩
def RJ9 : String := "java/lang/Math"
def TJ9 : u_T := fun k => match k with
  | _ => ("", "", "", false)
def tyJ9 : Nat → FieldType := fun k => match k with
  | _ => .int
abbrev wsJ90 : List Cond := u_ws RJ9 TJ9 0
theorem nmJ9 : ∀ a, a < 0 → ∀ b, b < 0 → a ≠ b → (TJ9 a).2.1 ≠ (TJ9 b).2.1 := by decide +kernel
theorem tyJ9_ok : ∀ k, k < 0 → parseFieldDescriptor (TJ9 k).2.2.1 = some (tyJ9 k) := by decide +kernel
abbrev cJ9_min_7cf53 : ByteArray := prog_9_method_69_code
def yJ9_min_7cf53 : MethodName := ⟨RJ9, "min", "(II)I"⟩
def RJ10 : String := "java/lang/System"
def TJ10 : u_T := fun k => match k with
  | _ => ("", "", "", false)
def tyJ10 : Nat → FieldType := fun k => match k with
  | _ => .int
abbrev wsJ100 : List Cond := u_ws RJ10 TJ10 0
theorem nmJ10 : ∀ a, a < 0 → ∀ b, b < 0 → a ≠ b → (TJ10 a).2.1 ≠ (TJ10 b).2.1 := by decide +kernel
theorem tyJ10_ok : ∀ k, k < 0 → parseFieldDescriptor (TJ10 k).2.2.1 = some (tyJ10 k) := by decide +kernel
def RL : String := "EvenLinesLaw"
abbrev cL_law : ByteArray := code
def yL_law : MethodName := ⟨RL, "law", "([I)Z"⟩
abbrev vwCl : List vw_C := [(RX0, TX0, 4), (RX1, TX1, 4), (RX2, TX2, 5), (RX3, TX3, 2), (RX4, TX4, 7), (RX5, TX5, 17)]
