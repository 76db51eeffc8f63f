/-! the constructors -/
def eI (cA : Nat → ClassId) (N : Nat) : va_E := .inl (cA 0, N, .inl zI)
def eJ (cA : Nat → ClassId) (N : Nat) : va_E := .inl (cA 1, N, .inr (.inl zJ))
def eZ (cA : Nat → ClassId) (N : Nat) : va_E := .inl (cA 2, N, .inl zI)
def eS (cA : Nat → ClassId) (f : Nat → Option Nat) : va_E := .inl (cA 3, 4, .inr (.inr (.inr (.inr f))))
def eG (cA : Nat → ClassId) (q : Nat) : va_E := .inl (cA 4, 11, .inr (.inr (.inr (.inr (fun i => if i < 11 then some (q + 1 + i) else none)))))
/-- what a constructor finds -/
def PI (dC : Nat → ClassId) (dI : Nat → Nat → Nat) (cA : Nat → ClassId) (sz : Nat) (w : va_W) (U : State) : Prop := U.heap.size = sz ∧ va_P (dC, dI) vwCl w U.heap ∧ va_K (dC, dI) vwCl (tysOf cA) U ∧ Ov U ∧ va_D (fun _ => True) w
/-- what it leaves -/
def QI {S : Type} (dC : Nat → ClassId) (dI : Nat → Nat → Nat) (wN : S → va_W) (A : Nat → Prop) : Array Value → State → Outcome → State → Prop := va_Qv (fun _ : S => True) (fun u t => va_P (dC, dI) vwCl (wN u) t.heap ∧ va_D A (wN u)) A
theorem fb_PI {av : List Value} {dC : Nat → ClassId} {dI : Nat → Nat → Nat} {cA : Nat → ClassId} {sz : Nat} {w : va_W} : FrameBlind (va_Pc av (PI dC dI cA sz w)) :=
  fun a U g mk q => by
    obtain ⟨q0, q1, qP, qK, qO, qD⟩ := q
    exact ⟨q0, q1, qP, va_K.moved (u := U) (U := U.calling g mk a) (Vm.Alike.refl U.vm) qK, Ov.same (u := U) (U := U.calling g mk a) rfl qO, qD⟩
theorem gIn {mi : MI} (h : Cond.code mi.1 mi.2.1 mi.2.2.1 mi.2.2.2.1 ∈ lw_g) : GoodIn lw_g (wsM mi) := by
  intro w hw
  have : w ∈ lw_g := by
    unfold wsM at hw
    rcases List.mem_cons.mp hw with rfl | hw <;> assumption
  exact ⟨this, lw_good w this⟩
def wc3 (cA : Nat → ClassId) (b : Nat) (u : Nat) : va_W := [(b, .inr (3, [.ref u, .int 0])), (u, eI cA 10)]
def wc0 (cA : Nat → ClassId) (b : Nat) (u : Nat × Nat) : va_W := [(b, .inr (0, [.ref u.1, .ref u.2, .int 0, .int 0])), (u.1, eI cA 7), (u.2, eI cA 7)]
def wc1 (cA : Nat → ClassId) (b : Nat) (u : Nat) : va_W := [(b, .inr (1, [.ref u, .int 1, .int 0, .int 0])), (u, eI cA 100)]
def wc2 (cA : Nat → ClassId) (b : Nat) (u : Nat × Nat × Nat) : va_W := [(b, .inr (2, [.ref u.1, .ref u.2.1, .ref u.2.2, .int 0, .int 0])), (u.1, eJ cA 12), (u.2.1, eG cA u.2.1), (u.2.2, eJ cA 11), (u.2.1 + 1 + 0, eJ cA 100), (u.2.1 + 1 + 1, eJ cA 100), (u.2.1 + 1 + 2, eJ cA 100), (u.2.1 + 1 + 3, eJ cA 100), (u.2.1 + 1 + 4, eJ cA 100), (u.2.1 + 1 + 5, eJ cA 100), (u.2.1 + 1 + 6, eJ cA 100), (u.2.1 + 1 + 7, eJ cA 100), (u.2.1 + 1 + 8, eJ cA 100), (u.2.1 + 1 + 9, eJ cA 100), (u.2.1 + 1 + 10, eJ cA 100)]
def wS (a b c d : Nat) : Nat → Option Nat := va_up (va_up (va_up (va_up (fun _ => none) 0 (some a)) 1 (some b)) 2 (some c)) 3 (some d)
def wc4 (cA : Nat → ClassId) (b : Nat) (u : Nat → Nat) : va_W := [(b, .inr (4, [.ref (u 1), .ref (u 3), .ref (u 5), .ref (u 20), .ref (u 23), .int 3, .int 0])), (u 1, .inr (3, [.ref (u 2), .int 0])), (u 2, eI cA 10), (u 3, .inr (3, [.ref (u 4), .int 0])), (u 4, eI cA 10), (u 5, .inr (2, [.ref (u 6), .ref (u 7), .ref (u 8), .int 0, .int 0])), (u 6, eJ cA 12), (u 7, eG cA (u 7)), (u 8, eJ cA 11), (u 7 + 1 + 0, eJ cA 100), (u 7 + 1 + 1, eJ cA 100), (u 7 + 1 + 2, eJ cA 100), (u 7 + 1 + 3, eJ cA 100), (u 7 + 1 + 4, eJ cA 100), (u 7 + 1 + 5, eJ cA 100), (u 7 + 1 + 6, eJ cA 100), (u 7 + 1 + 7, eJ cA 100), (u 7 + 1 + 8, eJ cA 100), (u 7 + 1 + 9, eJ cA 100), (u 7 + 1 + 10, eJ cA 100), (u 20, .inr (0, [.ref (u 21), .ref (u 22), .int 0, .int 0])), (u 21, eI cA 7), (u 22, eI cA 7), (u 23, eS cA (wS (u 24) (u 26) (u 28) (u 30))), (u 24, .inr (1, [.ref (u 25), .int 1, .int 0, .int 0])), (u 25, eI cA 100), (u 26, .inr (1, [.ref (u 27), .int 1, .int 0, .int 0])), (u 27, eI cA 100), (u 28, .inr (1, [.ref (u 29), .int 1, .int 0, .int 0])), (u 29, eI cA 100), (u 30, .inr (1, [.ref (u 31), .int 1, .int 0, .int 0])), (u 31, eI cA 100)]
def wc5 (cA : Nat → ClassId) (b : Nat) (u : Nat → Nat) : va_W := [(b, .inr (5, [.int 0, .ref (u 33), .int 3, .ref (u 34), .ref (u 35), .ref (u 36), .ref (u 37), .ref (u 38), .ref (u 39), .ref (u 40), .ref (u 41), .ref (u 42), .ref (u 43), .ref (u 44), .ref (u 45), .ref (u 46), .int 0])), (u 33, eI cA 100), (u 34, eJ cA 100), (u 35, eJ cA 100), (u 36, eJ cA 100), (u 37, eJ cA 11), (u 38, eJ cA 11), (u 39, eJ cA 11), (u 40, eI cA 7), (u 41, eI cA 100), (u 42, eZ cA 4), (u 43, eI cA 4), (u 44, eI cA 4), (u 45, eI cA 400), (u 46, eI cA 100)]
theorem kw_ml_X3_3 : Cond.methodLink RX3 3 objectInit ∈ lw_g := lw_gm (i := 55) (by decide +kernel) rfl
theorem kw_im_O : Cond.instanceMethod objectInit ∈ lw_g := lw_gm (i := 48) (by decide +kernel) rfl
theorem kw_oi : Cond.code objectInit ⟨#[0xb1]⟩ 1 none ∈ lw_g := lw_gm (i := 49) (by decide +kernel) rfl
theorem kw_ac_int : Cond.arrayClass .int ∈ lw_g := lw_gm (i := 69) (by decide +kernel) rfl
theorem kw_fl_X3_9 : Cond.fieldLink RX3 9 "EvenLines$Table" "minus" "[I" ∈ lw_g := lw_gm (i := 56) (by decide +kernel) rfl
theorem kw_fl_X3_15 : Cond.fieldLink RX3 15 "EvenLines$Table" "size" "I" ∈ lw_g := lw_gm (i := 60) (by decide +kernel) rfl
theorem kw_ml_X0_3 : Cond.methodLink RX0 3 objectInit ∈ lw_g := lw_gm (i := 101) (by decide +kernel) rfl
theorem kw_fl_X0_9 : Cond.fieldLink RX0 9 "EvenLines$Numberings" "line" "[I" ∈ lw_g := lw_gm (i := 102) (by decide +kernel) rfl
theorem kw_fl_X0_15 : Cond.fieldLink RX0 15 "EvenLines$Numberings" "wanted" "[I" ∈ lw_g := lw_gm (i := 103) (by decide +kernel) rfl
theorem kw_fl_X0_18 : Cond.fieldLink RX0 18 "EvenLines$Numberings" "least" "I" ∈ lw_g := lw_gm (i := 104) (by decide +kernel) rfl
theorem kw_fl_X0_22 : Cond.fieldLink RX0 22 "EvenLines$Numberings" "keeping" "I" ∈ lw_g := lw_gm (i := 105) (by decide +kernel) rfl
theorem kw_ml_X1_3 : Cond.methodLink RX1 3 objectInit ∈ lw_g := lw_gm (i := 121) (by decide +kernel) rfl
theorem kw_fl_X1_9 : Cond.fieldLink RX1 9 "EvenLines$Sheet" "items" "[I" ∈ lw_g := lw_gm (i := 122) (by decide +kernel) rfl
theorem kw_fl_X1_15 : Cond.fieldLink RX1 15 "EvenLines$Sheet" "lost" "Z" ∈ lw_g := lw_gm (i := 124) (by decide +kernel) rfl
theorem kw_fl_X1_19 : Cond.fieldLink RX1 19 "EvenLines$Sheet" "form" "I" ∈ lw_g := lw_gm (i := 126) (by decide +kernel) rfl
theorem kw_fl_X1_23 : Cond.fieldLink RX1 23 "EvenLines$Sheet" "size" "I" ∈ lw_g := lw_gm (i := 128) (by decide +kernel) rfl
theorem kw_ml_X2_3 : Cond.methodLink RX2 3 objectInit ∈ lw_g := lw_gm (i := 75) (by decide +kernel) rfl
theorem kw_ac_long : Cond.arrayClass .long ∈ lw_g := lw_gm (i := 95) (by decide +kernel) rfl
theorem kw_fl_X2_9 : Cond.fieldLink RX2 9 "EvenLines$Sums" "sum" "[J" ∈ lw_g := lw_gm (i := 78) (by decide +kernel) rfl
theorem kw_cl_X2_15 : Cond.classLink RX2 15 "[[J" ∈ lw_g := lw_gm (i := 76) (by decide +kernel) rfl
theorem kw_fl_X2_17 : Cond.fieldLink RX2 17 "EvenLines$Sums" "rest" "[[J" ∈ lw_g := lw_gm (i := 80) (by decide +kernel) rfl
theorem kw_fl_X2_20 : Cond.fieldLink RX2 20 "EvenLines$Sums" "quotient" "[J" ∈ lw_g := lw_gm (i := 81) (by decide +kernel) rfl
theorem kw_fl_X2_23 : Cond.fieldLink RX2 23 "EvenLines$Sums" "size" "I" ∈ lw_g := lw_gm (i := 82) (by decide +kernel) rfl
theorem kw_fl_X2_27 : Cond.fieldLink RX2 27 "EvenLines$Sums" "diagonal" "I" ∈ lw_g := lw_gm (i := 83) (by decide +kernel) rfl
theorem kw_ml_X4_1 : Cond.methodLink RX4 1 objectInit ∈ lw_g := lw_gm (i := 47) (by decide +kernel) rfl
theorem kw_cl_X4_7 : Cond.classLink RX4 7 RX3 ∈ lw_g := lw_gm (i := 50) (by decide +kernel) rfl
theorem kw_in_X3 : Cond.instantiable RX3 2 ∈ lw_g := lw_gm (i := 51) (by decide +kernel) rfl
theorem kw_ini_X3 : Cond.initialized RX3 ∈ lw_g := lw_gm (i := 34) (by decide +kernel) rfl
theorem kw_c_X3_init : Cond.code yX3_init cX3_init 1 none ∈ lw_g := lw_gm (i := 54) (by decide +kernel) rfl
theorem kw_im_X3_init : Cond.instanceMethod yX3_init ∈ lw_g := lw_gm (i := 53) (by decide +kernel) rfl
theorem kw_fl_X4_10 : Cond.fieldLink RX4 10 "EvenLines" "table" "LEvenLines$Table;" ∈ lw_g := lw_gm (i := 139) (by decide +kernel) rfl
theorem kw_fl_X4_16 : Cond.fieldLink RX4 16 "EvenLines" "other" "LEvenLines$Table;" ∈ lw_g := lw_gm (i := 140) (by decide +kernel) rfl
theorem kw_cl_X4_19 : Cond.classLink RX4 19 RX2 ∈ lw_g := lw_gm (i := 70) (by decide +kernel) rfl
theorem kw_in_X2 : Cond.instantiable RX2 5 ∈ lw_g := lw_gm (i := 71) (by decide +kernel) rfl
theorem kw_ini_X2 : Cond.initialized RX2 ∈ lw_g := lw_gm (i := 35) (by decide +kernel) rfl
theorem kw_c_X2_init : Cond.code yX2_init cX2_init 1 none ∈ lw_g := lw_gm (i := 74) (by decide +kernel) rfl
theorem kw_im_X2_init : Cond.instanceMethod yX2_init ∈ lw_g := lw_gm (i := 73) (by decide +kernel) rfl
theorem kw_fl_X4_22 : Cond.fieldLink RX4 22 "EvenLines" "reckoned" "LEvenLines$Sums;" ∈ lw_g := lw_gm (i := 141) (by decide +kernel) rfl
theorem kw_cl_X4_26 : Cond.classLink RX4 26 RX0 ∈ lw_g := lw_gm (i := 96) (by decide +kernel) rfl
theorem kw_in_X0 : Cond.instantiable RX0 4 ∈ lw_g := lw_gm (i := 97) (by decide +kernel) rfl
theorem kw_ini_X0 : Cond.initialized RX0 ∈ lw_g := lw_gm (i := 36) (by decide +kernel) rfl
theorem kw_c_X0_init : Cond.code yX0_init cX0_init 1 none ∈ lw_g := lw_gm (i := 100) (by decide +kernel) rfl
theorem kw_im_X0_init : Cond.instanceMethod yX0_init ∈ lw_g := lw_gm (i := 99) (by decide +kernel) rfl
theorem kw_fl_X4_29 : Cond.fieldLink RX4 29 "EvenLines" "numberings" "LEvenLines$Numberings;" ∈ lw_g := lw_gm (i := 142) (by decide +kernel) rfl
theorem kw_cl_X4_33 : Cond.classLink RX4 33 RX1 ∈ lw_g := lw_gm (i := 115) (by decide +kernel) rfl
theorem kw_fl_X4_35 : Cond.fieldLink RX4 35 "EvenLines" "sheets" "[LEvenLines$Sheet;" ∈ lw_g := lw_gm (i := 143) (by decide +kernel) rfl
theorem kw_fl_X4_39 : Cond.fieldLink RX4 39 "EvenLines" "angle" "I" ∈ lw_g := lw_gm (i := 144) (by decide +kernel) rfl
theorem kw_fl_X4_43 : Cond.fieldLink RX4 43 "EvenLines" "finding" "I" ∈ lw_g := lw_gm (i := 145) (by decide +kernel) rfl
theorem kw_in_X1 : Cond.instantiable RX1 4 ∈ lw_g := lw_gm (i := 117) (by decide +kernel) rfl
theorem kw_ini_X1 : Cond.initialized RX1 ∈ lw_g := lw_gm (i := 37) (by decide +kernel) rfl
theorem kw_c_X1_init : Cond.code yX1_init cX1_init 1 none ∈ lw_g := lw_gm (i := 120) (by decide +kernel) rfl
theorem kw_im_X1_init : Cond.instanceMethod yX1_init ∈ lw_g := lw_gm (i := 119) (by decide +kernel) rfl
theorem kw_ml_X5_1 : Cond.methodLink RX5 1 objectInit ∈ lw_g := lw_gm (i := 531) (by decide +kernel) rfl
theorem kw_fl_X5_7 : Cond.fieldLink RX5 7 "EvenLinesModel" "table" "[I" ∈ lw_g := lw_gm (i := 533) (by decide +kernel) rfl
theorem kw_fl_X5_13 : Cond.fieldLink RX5 13 "EvenLinesModel" "angle" "I" ∈ lw_g := lw_gm (i := 534) (by decide +kernel) rfl
theorem kw_fl_X5_17 : Cond.fieldLink RX5 17 "EvenLinesModel" "matrix" "[J" ∈ lw_g := lw_gm (i := 535) (by decide +kernel) rfl
theorem kw_fl_X5_21 : Cond.fieldLink RX5 21 "EvenLinesModel" "power" "[J" ∈ lw_g := lw_gm (i := 536) (by decide +kernel) rfl
theorem kw_fl_X5_24 : Cond.fieldLink RX5 24 "EvenLinesModel" "next" "[J" ∈ lw_g := lw_gm (i := 537) (by decide +kernel) rfl
theorem kw_fl_X5_27 : Cond.fieldLink RX5 27 "EvenLinesModel" "traces" "[J" ∈ lw_g := lw_gm (i := 538) (by decide +kernel) rfl
theorem kw_fl_X5_30 : Cond.fieldLink RX5 30 "EvenLinesModel" "es" "[J" ∈ lw_g := lw_gm (i := 539) (by decide +kernel) rfl
theorem kw_fl_X5_33 : Cond.fieldLink RX5 33 "EvenLinesModel" "rests" "[J" ∈ lw_g := lw_gm (i := 540) (by decide +kernel) rfl
theorem kw_fl_X5_36 : Cond.fieldLink RX5 36 "EvenLinesModel" "order" "[I" ∈ lw_g := lw_gm (i := 541) (by decide +kernel) rfl
theorem kw_fl_X5_39 : Cond.fieldLink RX5 39 "EvenLinesModel" "saved" "[I" ∈ lw_g := lw_gm (i := 542) (by decide +kernel) rfl
theorem kw_ac_boolean : Cond.arrayClass .boolean ∈ lw_g := lw_gm (i := 584) (by decide +kernel) rfl
theorem kw_fl_X5_42 : Cond.fieldLink RX5 42 "EvenLinesModel" "isThere" "[Z" ∈ lw_g := lw_gm (i := 543) (by decide +kernel) rfl
theorem kw_fl_X5_46 : Cond.fieldLink RX5 46 "EvenLinesModel" "forms" "[I" ∈ lw_g := lw_gm (i := 544) (by decide +kernel) rfl
theorem kw_fl_X5_49 : Cond.fieldLink RX5 49 "EvenLinesModel" "sizes" "[I" ∈ lw_g := lw_gm (i := 545) (by decide +kernel) rfl
theorem kw_fl_X5_52 : Cond.fieldLink RX5 52 "EvenLinesModel" "items" "[I" ∈ lw_g := lw_gm (i := 546) (by decide +kernel) rfl
theorem kw_fl_X5_55 : Cond.fieldLink RX5 55 "EvenLinesModel" "moved" "[I" ∈ lw_g := lw_gm (i := 547) (by decide +kernel) rfl
theorem kw_cl_L_7 : Cond.classLink RL 7 RX4 ∈ lw_g := lw_gm (i := 42) (by decide +kernel) rfl
theorem kw_in_X4 : Cond.instantiable RX4 7 ∈ lw_g := lw_gm (i := 43) (by decide +kernel) rfl
theorem kw_ini_X4 : Cond.initialized RX4 ∈ lw_g := lw_gm (i := 33) (by decide +kernel) rfl
theorem kw_c_X4_init : Cond.code yX4_init cX4_init 2 none ∈ lw_g := lw_gm (i := 46) (by decide +kernel) rfl
theorem kw_ml_L_9 : Cond.methodLink RL 9 yX4_init ∈ lw_g := lw_gm (i := 44) (by decide +kernel) rfl
theorem kw_im_X4_init : Cond.instanceMethod yX4_init ∈ lw_g := lw_gm (i := 45) (by decide +kernel) rfl
theorem kw_cl_L_10 : Cond.classLink RL 10 RX5 ∈ lw_g := lw_gm (i := 526) (by decide +kernel) rfl
theorem kw_in_X5 : Cond.instantiable RX5 17 ∈ lw_g := lw_gm (i := 527) (by decide +kernel) rfl
theorem kw_ini_X5 : Cond.initialized RX5 ∈ lw_g := lw_gm (i := 38) (by decide +kernel) rfl
theorem kw_c_X5_init : Cond.code yX5_init cX5_init 1 none ∈ lw_g := lw_gm (i := 530) (by decide +kernel) rfl
theorem kw_ml_L_12 : Cond.methodLink RL 12 yX5_init ∈ lw_g := lw_gm (i := 528) (by decide +kernel) rfl
theorem kw_im_X5_init : Cond.instanceMethod yX5_init ∈ lw_g := lw_gm (i := 529) (by decide +kernel) rfl
theorem dX3_init_0 : decode cX3_init 0 = .ok (.aload_n 0, 1) := by decide +kernel
theorem dX3_init_1 : decode cX3_init 1 = .ok (.invokespecial 3, 3) := by decide +kernel
theorem dX3_init_4 : decode cX3_init 4 = .ok (.aload_n 0, 1) := by decide +kernel
theorem dX3_init_5 : decode cX3_init 5 = .ok (.bipush 10, 2) := by decide +kernel
theorem dX3_init_7 : decode cX3_init 7 = .ok (.newarray .int, 2) := by decide +kernel
theorem dX3_init_9 : decode cX3_init 9 = .ok (.putfield 9, 3) := by decide +kernel
theorem dX3_init_12 : decode cX3_init 12 = .ok (.aload_n 0, 1) := by decide +kernel
theorem dX3_init_13 : decode cX3_init 13 = .ok (.iconst 0, 1) := by decide +kernel
theorem dX3_init_14 : decode cX3_init 14 = .ok (.putfield 15, 3) := by decide +kernel
theorem dX3_init_17 : decode cX3_init 17 = .ok (.return_, 1) := by decide +kernel
theorem dX0_init_0 : decode cX0_init 0 = .ok (.aload_n 0, 1) := by decide +kernel
theorem dX0_init_1 : decode cX0_init 1 = .ok (.invokespecial 3, 3) := by decide +kernel
theorem dX0_init_4 : decode cX0_init 4 = .ok (.aload_n 0, 1) := by decide +kernel
theorem dX0_init_5 : decode cX0_init 5 = .ok (.bipush 7, 2) := by decide +kernel
theorem dX0_init_7 : decode cX0_init 7 = .ok (.newarray .int, 2) := by decide +kernel
theorem dX0_init_9 : decode cX0_init 9 = .ok (.putfield 9, 3) := by decide +kernel
theorem dX0_init_12 : decode cX0_init 12 = .ok (.aload_n 0, 1) := by decide +kernel
theorem dX0_init_13 : decode cX0_init 13 = .ok (.bipush 7, 2) := by decide +kernel
theorem dX0_init_15 : decode cX0_init 15 = .ok (.newarray .int, 2) := by decide +kernel
theorem dX0_init_17 : decode cX0_init 17 = .ok (.putfield 15, 3) := by decide +kernel
theorem dX0_init_20 : decode cX0_init 20 = .ok (.aload_n 0, 1) := by decide +kernel
theorem dX0_init_21 : decode cX0_init 21 = .ok (.iconst 0, 1) := by decide +kernel
theorem dX0_init_22 : decode cX0_init 22 = .ok (.putfield 18, 3) := by decide +kernel
theorem dX0_init_25 : decode cX0_init 25 = .ok (.aload_n 0, 1) := by decide +kernel
theorem dX0_init_26 : decode cX0_init 26 = .ok (.iconst 0, 1) := by decide +kernel
theorem dX0_init_27 : decode cX0_init 27 = .ok (.putfield 22, 3) := by decide +kernel
theorem dX0_init_30 : decode cX0_init 30 = .ok (.return_, 1) := by decide +kernel
theorem dX1_init_0 : decode cX1_init 0 = .ok (.aload_n 0, 1) := by decide +kernel
theorem dX1_init_1 : decode cX1_init 1 = .ok (.invokespecial 3, 3) := by decide +kernel
theorem dX1_init_4 : decode cX1_init 4 = .ok (.aload_n 0, 1) := by decide +kernel
theorem dX1_init_5 : decode cX1_init 5 = .ok (.bipush 100, 2) := by decide +kernel
theorem dX1_init_7 : decode cX1_init 7 = .ok (.newarray .int, 2) := by decide +kernel
theorem dX1_init_9 : decode cX1_init 9 = .ok (.putfield 9, 3) := by decide +kernel
theorem dX1_init_12 : decode cX1_init 12 = .ok (.aload_n 0, 1) := by decide +kernel
theorem dX1_init_13 : decode cX1_init 13 = .ok (.iconst 1, 1) := by decide +kernel
theorem dX1_init_14 : decode cX1_init 14 = .ok (.putfield 15, 3) := by decide +kernel
theorem dX1_init_17 : decode cX1_init 17 = .ok (.aload_n 0, 1) := by decide +kernel
theorem dX1_init_18 : decode cX1_init 18 = .ok (.iconst 0, 1) := by decide +kernel
theorem dX1_init_19 : decode cX1_init 19 = .ok (.putfield 19, 3) := by decide +kernel
theorem dX1_init_22 : decode cX1_init 22 = .ok (.aload_n 0, 1) := by decide +kernel
theorem dX1_init_23 : decode cX1_init 23 = .ok (.iconst 0, 1) := by decide +kernel
theorem dX1_init_24 : decode cX1_init 24 = .ok (.putfield 23, 3) := by decide +kernel
theorem dX1_init_27 : decode cX1_init 27 = .ok (.return_, 1) := by decide +kernel
theorem dX2_init_0 : decode cX2_init 0 = .ok (.aload_n 0, 1) := by decide +kernel
theorem dX2_init_1 : decode cX2_init 1 = .ok (.invokespecial 3, 3) := by decide +kernel
theorem dX2_init_4 : decode cX2_init 4 = .ok (.aload_n 0, 1) := by decide +kernel
theorem dX2_init_5 : decode cX2_init 5 = .ok (.bipush 12, 2) := by decide +kernel
theorem dX2_init_7 : decode cX2_init 7 = .ok (.newarray .long, 2) := by decide +kernel
theorem dX2_init_9 : decode cX2_init 9 = .ok (.putfield 9, 3) := by decide +kernel
theorem dX2_init_12 : decode cX2_init 12 = .ok (.aload_n 0, 1) := by decide +kernel
theorem dX2_init_13 : decode cX2_init 13 = .ok (.bipush 11, 2) := by decide +kernel
theorem dX2_init_15 : decode cX2_init 15 = .ok (.bipush 100, 2) := by decide +kernel
theorem dX2_init_17 : decode cX2_init 17 = .ok (.multianewarray 15 2, 4) := by decide +kernel
theorem dX2_init_21 : decode cX2_init 21 = .ok (.putfield 17, 3) := by decide +kernel
theorem dX2_init_24 : decode cX2_init 24 = .ok (.aload_n 0, 1) := by decide +kernel
theorem dX2_init_25 : decode cX2_init 25 = .ok (.bipush 11, 2) := by decide +kernel
theorem dX2_init_27 : decode cX2_init 27 = .ok (.newarray .long, 2) := by decide +kernel
theorem dX2_init_29 : decode cX2_init 29 = .ok (.putfield 20, 3) := by decide +kernel
theorem dX2_init_32 : decode cX2_init 32 = .ok (.aload_n 0, 1) := by decide +kernel
theorem dX2_init_33 : decode cX2_init 33 = .ok (.iconst 0, 1) := by decide +kernel
theorem dX2_init_34 : decode cX2_init 34 = .ok (.putfield 23, 3) := by decide +kernel
theorem dX2_init_37 : decode cX2_init 37 = .ok (.aload_n 0, 1) := by decide +kernel
theorem dX2_init_38 : decode cX2_init 38 = .ok (.iconst 0, 1) := by decide +kernel
theorem dX2_init_39 : decode cX2_init 39 = .ok (.putfield 27, 3) := by decide +kernel
theorem dX2_init_42 : decode cX2_init 42 = .ok (.return_, 1) := by decide +kernel
theorem dX4_init_0 : decode cX4_init 0 = .ok (.aload_n 0, 1) := by decide +kernel
theorem dX4_init_1 : decode cX4_init 1 = .ok (.invokespecial 1, 3) := by decide +kernel
theorem dX4_init_4 : decode cX4_init 4 = .ok (.aload_n 0, 1) := by decide +kernel
theorem dX4_init_5 : decode cX4_init 5 = .ok (.new 7, 3) := by decide +kernel
theorem dX4_init_8 : decode cX4_init 8 = .ok (.dup, 1) := by decide +kernel
theorem dX4_init_9 : decode cX4_init 9 = .ok (.invokespecial 9, 3) := by decide +kernel
theorem dX4_init_12 : decode cX4_init 12 = .ok (.putfield 10, 3) := by decide +kernel
theorem dX4_init_15 : decode cX4_init 15 = .ok (.aload_n 0, 1) := by decide +kernel
theorem dX4_init_16 : decode cX4_init 16 = .ok (.new 7, 3) := by decide +kernel
theorem dX4_init_19 : decode cX4_init 19 = .ok (.dup, 1) := by decide +kernel
theorem dX4_init_20 : decode cX4_init 20 = .ok (.invokespecial 9, 3) := by decide +kernel
theorem dX4_init_23 : decode cX4_init 23 = .ok (.putfield 16, 3) := by decide +kernel
theorem dX4_init_26 : decode cX4_init 26 = .ok (.aload_n 0, 1) := by decide +kernel
theorem dX4_init_27 : decode cX4_init 27 = .ok (.new 19, 3) := by decide +kernel
theorem dX4_init_30 : decode cX4_init 30 = .ok (.dup, 1) := by decide +kernel
theorem dX4_init_31 : decode cX4_init 31 = .ok (.invokespecial 21, 3) := by decide +kernel
theorem dX4_init_34 : decode cX4_init 34 = .ok (.putfield 22, 3) := by decide +kernel
theorem dX4_init_37 : decode cX4_init 37 = .ok (.aload_n 0, 1) := by decide +kernel
theorem dX4_init_38 : decode cX4_init 38 = .ok (.new 26, 3) := by decide +kernel
theorem dX4_init_41 : decode cX4_init 41 = .ok (.dup, 1) := by decide +kernel
theorem dX4_init_42 : decode cX4_init 42 = .ok (.invokespecial 28, 3) := by decide +kernel
theorem dX4_init_45 : decode cX4_init 45 = .ok (.putfield 29, 3) := by decide +kernel
theorem dX4_init_48 : decode cX4_init 48 = .ok (.aload_n 0, 1) := by decide +kernel
theorem dX4_init_49 : decode cX4_init 49 = .ok (.iconst 4, 1) := by decide +kernel
theorem dX4_init_50 : decode cX4_init 50 = .ok (.anewarray 33, 3) := by decide +kernel
theorem dX4_init_53 : decode cX4_init 53 = .ok (.putfield 35, 3) := by decide +kernel
theorem dX4_init_56 : decode cX4_init 56 = .ok (.aload_n 0, 1) := by decide +kernel
theorem dX4_init_57 : decode cX4_init 57 = .ok (.iconst 3, 1) := by decide +kernel
theorem dX4_init_58 : decode cX4_init 58 = .ok (.putfield 39, 3) := by decide +kernel
theorem dX4_init_61 : decode cX4_init 61 = .ok (.aload_n 0, 1) := by decide +kernel
theorem dX4_init_62 : decode cX4_init 62 = .ok (.iconst 0, 1) := by decide +kernel
theorem dX4_init_63 : decode cX4_init 63 = .ok (.putfield 43, 3) := by decide +kernel
theorem dX4_init_66 : decode cX4_init 66 = .ok (.iconst 0, 1) := by decide +kernel
theorem dX4_init_67 : decode cX4_init 67 = .ok (.istore_n 1, 1) := by decide +kernel
theorem dX4_init_68 : decode cX4_init 68 = .ok (.iload_n 1, 1) := by decide +kernel
theorem dX4_init_69 : decode cX4_init 69 = .ok (.iconst 4, 1) := by decide +kernel
theorem dX4_init_70 : decode cX4_init 70 = .ok (.if_icmp .ge 22, 3) := by decide +kernel
theorem dX4_init_73 : decode cX4_init 73 = .ok (.aload_n 0, 1) := by decide +kernel
theorem dX4_init_74 : decode cX4_init 74 = .ok (.getfield 35, 3) := by decide +kernel
theorem dX4_init_77 : decode cX4_init 77 = .ok (.iload_n 1, 1) := by decide +kernel
theorem dX4_init_78 : decode cX4_init 78 = .ok (.new 33, 3) := by decide +kernel
theorem dX4_init_81 : decode cX4_init 81 = .ok (.dup, 1) := by decide +kernel
theorem dX4_init_82 : decode cX4_init 82 = .ok (.invokespecial 46, 3) := by decide +kernel
theorem dX4_init_85 : decode cX4_init 85 = .ok (.aastore, 1) := by decide +kernel
theorem dX4_init_86 : decode cX4_init 86 = .ok (.iinc 1 1, 3) := by decide +kernel
theorem dX4_init_89 : decode cX4_init 89 = .ok (.goto (-21), 3) := by decide +kernel
theorem dX4_init_92 : decode cX4_init 92 = .ok (.return_, 1) := by decide +kernel
theorem dX5_init_0 : decode cX5_init 0 = .ok (.aload_n 0, 1) := by decide +kernel
theorem dX5_init_1 : decode cX5_init 1 = .ok (.invokespecial 1, 3) := by decide +kernel
theorem dX5_init_4 : decode cX5_init 4 = .ok (.aload_n 0, 1) := by decide +kernel
theorem dX5_init_5 : decode cX5_init 5 = .ok (.bipush 100, 2) := by decide +kernel
theorem dX5_init_7 : decode cX5_init 7 = .ok (.newarray .int, 2) := by decide +kernel
theorem dX5_init_9 : decode cX5_init 9 = .ok (.putfield 7, 3) := by decide +kernel
theorem dX5_init_12 : decode cX5_init 12 = .ok (.aload_n 0, 1) := by decide +kernel
theorem dX5_init_13 : decode cX5_init 13 = .ok (.iconst 3, 1) := by decide +kernel
theorem dX5_init_14 : decode cX5_init 14 = .ok (.putfield 13, 3) := by decide +kernel
theorem dX5_init_17 : decode cX5_init 17 = .ok (.aload_n 0, 1) := by decide +kernel
theorem dX5_init_18 : decode cX5_init 18 = .ok (.bipush 100, 2) := by decide +kernel
theorem dX5_init_20 : decode cX5_init 20 = .ok (.newarray .long, 2) := by decide +kernel
theorem dX5_init_22 : decode cX5_init 22 = .ok (.putfield 17, 3) := by decide +kernel
theorem dX5_init_25 : decode cX5_init 25 = .ok (.aload_n 0, 1) := by decide +kernel
theorem dX5_init_26 : decode cX5_init 26 = .ok (.bipush 100, 2) := by decide +kernel
theorem dX5_init_28 : decode cX5_init 28 = .ok (.newarray .long, 2) := by decide +kernel
theorem dX5_init_30 : decode cX5_init 30 = .ok (.putfield 21, 3) := by decide +kernel
theorem dX5_init_33 : decode cX5_init 33 = .ok (.aload_n 0, 1) := by decide +kernel
theorem dX5_init_34 : decode cX5_init 34 = .ok (.bipush 100, 2) := by decide +kernel
theorem dX5_init_36 : decode cX5_init 36 = .ok (.newarray .long, 2) := by decide +kernel
theorem dX5_init_38 : decode cX5_init 38 = .ok (.putfield 24, 3) := by decide +kernel
theorem dX5_init_41 : decode cX5_init 41 = .ok (.aload_n 0, 1) := by decide +kernel
theorem dX5_init_42 : decode cX5_init 42 = .ok (.bipush 11, 2) := by decide +kernel
theorem dX5_init_44 : decode cX5_init 44 = .ok (.newarray .long, 2) := by decide +kernel
theorem dX5_init_46 : decode cX5_init 46 = .ok (.putfield 27, 3) := by decide +kernel
theorem dX5_init_49 : decode cX5_init 49 = .ok (.aload_n 0, 1) := by decide +kernel
theorem dX5_init_50 : decode cX5_init 50 = .ok (.bipush 11, 2) := by decide +kernel
theorem dX5_init_52 : decode cX5_init 52 = .ok (.newarray .long, 2) := by decide +kernel
theorem dX5_init_54 : decode cX5_init 54 = .ok (.putfield 30, 3) := by decide +kernel
theorem dX5_init_57 : decode cX5_init 57 = .ok (.aload_n 0, 1) := by decide +kernel
theorem dX5_init_58 : decode cX5_init 58 = .ok (.bipush 11, 2) := by decide +kernel
theorem dX5_init_60 : decode cX5_init 60 = .ok (.newarray .long, 2) := by decide +kernel
theorem dX5_init_62 : decode cX5_init 62 = .ok (.putfield 33, 3) := by decide +kernel
theorem dX5_init_65 : decode cX5_init 65 = .ok (.aload_n 0, 1) := by decide +kernel
theorem dX5_init_66 : decode cX5_init 66 = .ok (.bipush 7, 2) := by decide +kernel
theorem dX5_init_68 : decode cX5_init 68 = .ok (.newarray .int, 2) := by decide +kernel
theorem dX5_init_70 : decode cX5_init 70 = .ok (.putfield 36, 3) := by decide +kernel
theorem dX5_init_73 : decode cX5_init 73 = .ok (.aload_n 0, 1) := by decide +kernel
theorem dX5_init_74 : decode cX5_init 74 = .ok (.bipush 100, 2) := by decide +kernel
theorem dX5_init_76 : decode cX5_init 76 = .ok (.newarray .int, 2) := by decide +kernel
theorem dX5_init_78 : decode cX5_init 78 = .ok (.putfield 39, 3) := by decide +kernel
theorem dX5_init_81 : decode cX5_init 81 = .ok (.aload_n 0, 1) := by decide +kernel
theorem dX5_init_82 : decode cX5_init 82 = .ok (.iconst 4, 1) := by decide +kernel
theorem dX5_init_83 : decode cX5_init 83 = .ok (.newarray .boolean, 2) := by decide +kernel
theorem dX5_init_85 : decode cX5_init 85 = .ok (.putfield 42, 3) := by decide +kernel
theorem dX5_init_88 : decode cX5_init 88 = .ok (.aload_n 0, 1) := by decide +kernel
theorem dX5_init_89 : decode cX5_init 89 = .ok (.iconst 4, 1) := by decide +kernel
theorem dX5_init_90 : decode cX5_init 90 = .ok (.newarray .int, 2) := by decide +kernel
theorem dX5_init_92 : decode cX5_init 92 = .ok (.putfield 46, 3) := by decide +kernel
theorem dX5_init_95 : decode cX5_init 95 = .ok (.aload_n 0, 1) := by decide +kernel
theorem dX5_init_96 : decode cX5_init 96 = .ok (.iconst 4, 1) := by decide +kernel
theorem dX5_init_97 : decode cX5_init 97 = .ok (.newarray .int, 2) := by decide +kernel
theorem dX5_init_99 : decode cX5_init 99 = .ok (.putfield 49, 3) := by decide +kernel
theorem dX5_init_102 : decode cX5_init 102 = .ok (.aload_n 0, 1) := by decide +kernel
theorem dX5_init_103 : decode cX5_init 103 = .ok (.sipush 400, 3) := by decide +kernel
theorem dX5_init_106 : decode cX5_init 106 = .ok (.newarray .int, 2) := by decide +kernel
theorem dX5_init_108 : decode cX5_init 108 = .ok (.putfield 52, 3) := by decide +kernel
theorem dX5_init_111 : decode cX5_init 111 = .ok (.aload_n 0, 1) := by decide +kernel
theorem dX5_init_112 : decode cX5_init 112 = .ok (.bipush 100, 2) := by decide +kernel
theorem dX5_init_114 : decode cX5_init 114 = .ok (.newarray .int, 2) := by decide +kernel
theorem dX5_init_116 : decode cX5_init 116 = .ok (.putfield 55, 3) := by decide +kernel
theorem dX5_init_119 : decode cX5_init 119 = .ok (.return_, 1) := by decide +kernel
