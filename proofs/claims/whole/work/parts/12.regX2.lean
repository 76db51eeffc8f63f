def L_X2_take_32 (d : Nat) (P : Hp → Prop) (h : Hp) (r0 : Nat) (r1 : Nat) (i3 : Int32) : Prop := X (KM (none) (fun r h' => r = none ∧ P h')) RX2 cX2_take 4 (d + 1) h 32 [(0, .ref r0), (1, .ref r1), (3, .int i3)] []
set_option maxRecDepth 20000 in
theorem e_X2_take {d : Nat} {P : Hp → Prop} {h : Hp} {r0 : Nat} {r1 : Nat} {i2 : Int32} (ho : r0 < 47 ∧ ∃ fs, h r0 = .inr (2, fs)) (H : ∃ x1, gI h 3 r1 1 = some x1 ∧ ∃ h2, sF h 2 r0 3 (.int x1) = some h2 ∧ ∃ h3, sF h2 2 r0 4 (.int i2) = some h3 ∧ ∃ q4, gR h3 2 r0 0 = some q4 ∧ ∃ h5, sJ h3 q4 (0 : Int32) (1 : Int64) = some h5 ∧ ∃ q6, gR h5 2 r0 1 = some q6 ∧ ∃ q7, lQ 4 h5 q6 (0 : Int32) = some q7 ∧ CV M_X2_setUnit d [.ref r0, .ref q7] h5 (fun h8 => L_X2_take_32 d P h8 r0 r1 (1 : Int32))) : CV M_X2_take (d + 1) [.ref r0, .ref r1, .int i2] h P := by
  refine ⟨⟨r0, rfl, ho⟩, x_enter (by decide) (Nat.le_of_ble_eq_true rfl) ?_⟩
  show X (KM (none) (fun r h' => r = none ∧ P h')) RX2 cX2_take 4 (d + 1) h 0 [(0, .ref r0), (1, .ref r1), (2, .int i2)] []
  refine x_aload_n dX2_take_0 rfl 0 rfl ?_
  refine x_aload_n dX2_take_1 rfl 1 rfl ?_
  obtain ⟨x1, ex1, H⟩ := H
  refine x_getI fl_X2_30 dX2_take_2 ex1 ?_
  obtain ⟨h2, eh2, H⟩ := H
  refine x_putI fp_X2_23 rfl rfl dX2_take_5 eh2 ?_
  refine x_aload_n dX2_take_8 rfl 0 rfl ?_
  refine x_iload_n dX2_take_9 rfl 2 rfl ?_
  obtain ⟨h3, eh3, H⟩ := H
  refine x_putI fp_X2_27 rfl rfl dX2_take_10 eh3 ?_
  refine x_aload_n dX2_take_13 rfl 0 rfl ?_
  obtain ⟨q4, eq4, H⟩ := H
  refine x_getR fl_X2_9 dX2_take_14 eq4 ?_
  refine x_iconst (v := (0 : Int32)) dX2_take_17 (by decide) ?_
  refine x_lconst (v := (1 : Int64)) dX2_take_18 (by decide) ?_
  obtain ⟨h5, eh5, H⟩ := H
  refine x_lastore dX2_take_19 eh5 ?_
  refine x_aload_n dX2_take_20 rfl 0 rfl ?_
  refine x_aload_n dX2_take_21 rfl 0 rfl ?_
  obtain ⟨q6, eq6, H⟩ := H
  refine x_getR fl_X2_17 dX2_take_22 eq6 ?_
  refine x_iconst (v := (0 : Int32)) dX2_take_25 (by decide) ?_
  obtain ⟨q7, eq7, H⟩ := H
  refine x_aaload4 dX2_take_26 eq7 ?_
  refine x_vV vl_X2_33 dX2_take_27 (As := [.ref q7]) rfl rfl (Nat.le_of_ble_eq_true rfl) (CV.mono H (fun h8 H => ?_))
  refine x_iconst (v := (1 : Int32)) dX2_take_30 (by decide) ?_
  refine x_istore_n dX2_take_31 rfl (by decide) (lv' := [(3, .int (1 : Int32)), (0, .ref r0), (1, .ref r1), (2, .int i2)]) rfl ?_
  refine x_perm [1, 2, 0] rfl ?_
  exact H
set_option maxRecDepth 20000 in
theorem r_X2_take_32 {d : Nat} {P : Hp → Prop} {h : Hp} {r0 : Nat} {r1 : Nat} {i3 : Int32} (H : ∃ x1, gI h 2 r0 3 = some x1 ∧ ((x1 < i3 → ∃ q2, gR h 2 r0 0 = some q2 ∧ ∃ x3, gI h 2 r0 3 = some x3 ∧ ∃ h4, sJ h q2 (x3 + (1 : Int32)) (0 : Int64) = some h4 ∧ P h4) ∧
  (¬ x1 < i3 → ∃ q5, gR h 2 r0 1 = some q5 ∧ ∃ q6, lQ 4 h q5 (i3 - (1 : Int32)) = some q6 ∧ ∃ q7, gR h 2 r0 1 = some q7 ∧ ∃ q8, lQ 4 h q7 i3 = some q8 ∧ CV M_X2_multiply d [.ref r0, .ref r1, .ref q6, .ref q8] h (fun h9 => ∃ q10, gR h9 2 r0 0 = some q10 ∧ ∃ q11, gR h9 2 r0 1 = some q11 ∧ ∃ q12, lQ 4 h9 q11 i3 = some q12 ∧ CJ M_X2_trace d [.ref r0, .ref q12] h9 (fun x14 h13 => ¬ i3.toInt64 = 0 ∧ (∃ h15, sJ h13 q10 i3 (x14 / i3.toInt64) = some h15 ∧ ∃ q16, gR h15 2 r0 0 = some q16 ∧ ∃ x17, lJ h15 q16 i3 = some x17 ∧ ∃ q18, gR h15 2 r0 1 = some q18 ∧ ∃ q19, lQ 4 h15 q18 i3 = some q19 ∧ CV M_X2_takeFromUnits d [.ref r0, .long x17, .ref q19] h15 (fun h20 => L_X2_take_32 d P h20 r0 r1 (i3 + (1 : Int32))))))))) : L_X2_take_32 d P h r0 r1 i3 := by
  show X (KM (none) (fun r h' => r = none ∧ P h')) RX2 cX2_take 4 (d + 1) h 32 [(0, .ref r0), (1, .ref r1), (3, .int i3)] []
  refine x_iload_n dX2_take_32 rfl 2 rfl ?_
  refine x_aload_n dX2_take_33 rfl 0 rfl ?_
  obtain ⟨x1, ex1, H⟩ := H
  refine x_getI fl_X2_23 dX2_take_34 ex1 ?_
  refine x_icmp_gt (tgt := 100) dX2_take_37 (by decide) (fun c => ?_) (fun c => ?_)
  · replace H := H.1 c
    refine x_aload_n dX2_take_100 rfl 0 rfl ?_
    obtain ⟨q2, eq2, H⟩ := H
    refine x_getR fl_X2_9 dX2_take_101 eq2 ?_
    refine x_aload_n dX2_take_104 rfl 0 rfl ?_
    obtain ⟨x3, ex3, H⟩ := H
    refine x_getI fl_X2_23 dX2_take_105 ex3 ?_
    refine x_iconst (v := (1 : Int32)) dX2_take_108 (by decide) ?_
    refine x_iadd dX2_take_109 ?_
    refine x_lconst (v := (0 : Int64)) dX2_take_110 (by decide) ?_
    obtain ⟨h4, eh4, H⟩ := H
    refine x_lastore dX2_take_111 eh4 ?_
    exact x_vret dX2_take_112 ⟨rfl, H⟩
  · replace H := H.2 c
    refine x_aload_n dX2_take_40 rfl 0 rfl ?_
    refine x_aload_n dX2_take_41 rfl 1 rfl ?_
    refine x_aload_n dX2_take_42 rfl 0 rfl ?_
    obtain ⟨q5, eq5, H⟩ := H
    refine x_getR fl_X2_17 dX2_take_43 eq5 ?_
    refine x_iload_n dX2_take_46 rfl 2 rfl ?_
    refine x_iconst (v := (1 : Int32)) dX2_take_47 (by decide) ?_
    refine x_isub dX2_take_48 ?_
    obtain ⟨q6, eq6, H⟩ := H
    refine x_aaload4 dX2_take_49 eq6 ?_
    refine x_aload_n dX2_take_50 rfl 0 rfl ?_
    obtain ⟨q7, eq7, H⟩ := H
    refine x_getR fl_X2_17 dX2_take_51 eq7 ?_
    refine x_iload_n dX2_take_54 rfl 2 rfl ?_
    obtain ⟨q8, eq8, H⟩ := H
    refine x_aaload4 dX2_take_55 eq8 ?_
    refine x_vV vl_X2_37 dX2_take_56 (As := [.ref r1, .ref q6, .ref q8]) rfl rfl (Nat.le_of_ble_eq_true rfl) (CV.mono H (fun h9 H => ?_))
    refine x_aload_n dX2_take_59 rfl 0 rfl ?_
    obtain ⟨q10, eq10, H⟩ := H
    refine x_getR fl_X2_9 dX2_take_60 eq10 ?_
    refine x_iload_n dX2_take_63 rfl 2 rfl ?_
    refine x_aload_n dX2_take_64 rfl 0 rfl ?_
    refine x_aload_n dX2_take_65 rfl 0 rfl ?_
    obtain ⟨q11, eq11, H⟩ := H
    refine x_getR fl_X2_17 dX2_take_66 eq11 ?_
    refine x_iload_n dX2_take_69 rfl 2 rfl ?_
    obtain ⟨q12, eq12, H⟩ := H
    refine x_aaload4 dX2_take_70 eq12 ?_
    refine x_vJ vl_X2_41 dX2_take_71 (As := [.ref q12]) rfl rfl (Nat.le_of_ble_eq_true rfl) (CJ.mono H (fun x14 h13 H => ?_))
    refine x_iload_n dX2_take_74 rfl 2 rfl ?_
    refine x_i2l dX2_take_75 ?_
    obtain ⟨hne, H⟩ := H
    refine x_ldiv dX2_take_76 hne ?_
    obtain ⟨h15, eh15, H⟩ := H
    refine x_lastore dX2_take_77 eh15 ?_
    refine x_aload_n dX2_take_78 rfl 0 rfl ?_
    refine x_aload_n dX2_take_79 rfl 0 rfl ?_
    obtain ⟨q16, eq16, H⟩ := H
    refine x_getR fl_X2_9 dX2_take_80 eq16 ?_
    refine x_iload_n dX2_take_83 rfl 2 rfl ?_
    obtain ⟨x17, ex17, H⟩ := H
    refine x_laload dX2_take_84 ex17 ?_
    refine x_aload_n dX2_take_85 rfl 0 rfl ?_
    obtain ⟨q18, eq18, H⟩ := H
    refine x_getR fl_X2_17 dX2_take_86 eq18 ?_
    refine x_iload_n dX2_take_89 rfl 2 rfl ?_
    obtain ⟨q19, eq19, H⟩ := H
    refine x_aaload4 dX2_take_90 eq19 ?_
    refine x_vV vl_X2_45 dX2_take_91 (As := [.long x17, .ref q19]) rfl rfl (Nat.le_of_ble_eq_true rfl) (CV.mono H (fun h20 H => ?_))
    refine x_iinc (q := 2) (v := (i3 + (1 : Int32))) dX2_take_94 rfl rfl (by decide) (lv' := [(3, .int (i3 + (1 : Int32))), (0, .ref r0), (1, .ref r1)]) rfl ?_
    refine x_goto (tgt := 32) dX2_take_97 (by decide) ?_
    refine x_perm [1, 2, 0] rfl ?_
    exact H
def L_X2_setUnit_2 (d : Nat) (P : Hp → Prop) (h : Hp) (r0 : Nat) (r1 : Nat) (i2 : Int32) : Prop := X (KM (none) (fun r h' => r = none ∧ P h')) RX2 cX2_setUnit 4 (d + 1) h 2 [(0, .ref r0), (1, .ref r1), (2, .int i2)] []
def L_X2_setUnit_12 (d : Nat) (P : Hp → Prop) (h : Hp) (r0 : Nat) (r1 : Nat) (i2 : Int32) (i3 : Int32) : Prop := X (KM (none) (fun r h' => r = none ∧ P h')) RX2 cX2_setUnit 4 (d + 1) h 12 [(0, .ref r0), (1, .ref r1), (2, .int i2), (3, .int i3)] []
set_option maxRecDepth 20000 in
theorem e_X2_setUnit {d : Nat} {P : Hp → Prop} {h : Hp} {r0 : Nat} {r1 : Nat} (ho : r0 < 47 ∧ ∃ fs, h r0 = .inr (2, fs)) (H : L_X2_setUnit_2 d P h r0 r1 (0 : Int32)) : CV M_X2_setUnit (d + 1) [.ref r0, .ref r1] h P := by
  refine ⟨⟨r0, rfl, ho⟩, x_enter (by decide) (Nat.le_of_ble_eq_true rfl) ?_⟩
  show X (KM (none) (fun r h' => r = none ∧ P h')) RX2 cX2_setUnit 4 (d + 1) h 0 [(0, .ref r0), (1, .ref r1)] []
  refine x_iconst (v := (0 : Int32)) dX2_setUnit_0 (by decide) ?_
  refine x_istore_n dX2_setUnit_1 rfl (by decide) (lv' := [(2, .int (0 : Int32)), (0, .ref r0), (1, .ref r1)]) rfl ?_
  refine x_perm [1, 2, 0] rfl ?_
  exact H
set_option maxRecDepth 20000 in
theorem r_X2_setUnit_2 {d : Nat} {P : Hp → Prop} {h : Hp} {r0 : Nat} {r1 : Nat} {i2 : Int32} (H : ∃ x1, gI h 2 r0 3 = some x1 ∧ ((x1 ≤ i2 → P h) ∧
  (¬ x1 ≤ i2 → L_X2_setUnit_12 d P h r0 r1 i2 (0 : Int32)))) : L_X2_setUnit_2 d P h r0 r1 i2 := by
  show X (KM (none) (fun r h' => r = none ∧ P h')) RX2 cX2_setUnit 4 (d + 1) h 2 [(0, .ref r0), (1, .ref r1), (2, .int i2)] []
  refine x_iload_n dX2_setUnit_2 rfl 2 rfl ?_
  refine x_aload_n dX2_setUnit_3 rfl 0 rfl ?_
  obtain ⟨x1, ex1, H⟩ := H
  refine x_getI fl_X2_23 dX2_setUnit_4 ex1 ?_
  refine x_icmp_ge (tgt := 52) dX2_setUnit_7 (by decide) (fun c => ?_) (fun c => ?_)
  · replace H := H.1 c
    exact x_vret dX2_setUnit_52 ⟨rfl, H⟩
  · replace H := H.2 c
    refine x_iconst (v := (0 : Int32)) dX2_setUnit_10 (by decide) ?_
    refine x_istore_n dX2_setUnit_11 rfl (by decide) (lv' := [(3, .int (0 : Int32)), (0, .ref r0), (1, .ref r1), (2, .int i2)]) rfl ?_
    refine x_perm [1, 2, 3, 0] rfl ?_
    exact H
set_option maxRecDepth 20000 in
theorem r_X2_setUnit_12 {d : Nat} {P : Hp → Prop} {h : Hp} {r0 : Nat} {r1 : Nat} {i2 : Int32} {i3 : Int32} (H : ∃ x1, gI h 2 r0 3 = some x1 ∧ ((x1 ≤ i3 → L_X2_setUnit_2 d P h r0 r1 (i2 + (1 : Int32))) ∧
  (¬ x1 ≤ i3 → ∃ x2, gI h 2 r0 3 = some x2 ∧ ((¬ i2 = i3 → ∃ h3, sJ h r1 ((x2 * i2) + i3) (0 : Int64) = some h3 ∧ L_X2_setUnit_12 d P h3 r0 r1 i2 (i3 + (1 : Int32))) ∧
    (i2 = i3 → ∃ h4, sJ h r1 ((x2 * i2) + i3) (1 : Int64) = some h4 ∧ L_X2_setUnit_12 d P h4 r0 r1 i2 (i3 + (1 : Int32))))))) : L_X2_setUnit_12 d P h r0 r1 i2 i3 := by
  show X (KM (none) (fun r h' => r = none ∧ P h')) RX2 cX2_setUnit 4 (d + 1) h 12 [(0, .ref r0), (1, .ref r1), (2, .int i2), (3, .int i3)] []
  refine x_iload_n dX2_setUnit_12 rfl 3 rfl ?_
  refine x_aload_n dX2_setUnit_13 rfl 0 rfl ?_
  obtain ⟨x1, ex1, H⟩ := H
  refine x_getI fl_X2_23 dX2_setUnit_14 ex1 ?_
  refine x_icmp_ge (tgt := 46) dX2_setUnit_17 (by decide) (fun c => ?_) (fun c => ?_)
  · replace H := H.1 c
    refine x_iinc (q := 2) (v := (i2 + (1 : Int32))) dX2_setUnit_46 rfl rfl (by decide) (lv' := [(2, .int (i2 + (1 : Int32))), (0, .ref r0), (1, .ref r1), (3, .int i3)]) rfl ?_
    refine x_goto (tgt := 2) dX2_setUnit_49 (by decide) ?_
    refine x_perm [1, 2, 0] rfl ?_
    exact H
  · replace H := H.2 c
    refine x_aload_n dX2_setUnit_20 rfl 1 rfl ?_
    refine x_aload_n dX2_setUnit_21 rfl 0 rfl ?_
    obtain ⟨x2, ex2, H⟩ := H
    refine x_getI fl_X2_23 dX2_setUnit_22 ex2 ?_
    refine x_iload_n dX2_setUnit_25 rfl 2 rfl ?_
    refine x_imul dX2_setUnit_26 ?_
    refine x_iload_n dX2_setUnit_27 rfl 3 rfl ?_
    refine x_iadd dX2_setUnit_28 ?_
    refine x_iload_n dX2_setUnit_29 rfl 2 rfl ?_
    refine x_iload_n dX2_setUnit_30 rfl 3 rfl ?_
    refine x_icmp_ne (tgt := 38) dX2_setUnit_31 (by decide) (fun c => ?_) (fun c => ?_)
    · replace H := H.1 c
      refine x_lconst (v := (0 : Int64)) dX2_setUnit_38 (by decide) ?_
      obtain ⟨h3, eh3, H⟩ := H
      refine x_lastore dX2_setUnit_39 eh3 ?_
      refine x_iinc (q := 3) (v := (i3 + (1 : Int32))) dX2_setUnit_40 rfl rfl (by decide) (lv' := [(3, .int (i3 + (1 : Int32))), (0, .ref r0), (1, .ref r1), (2, .int i2)]) rfl ?_
      refine x_goto (tgt := 12) dX2_setUnit_43 (by decide) ?_
      refine x_perm [1, 2, 3, 0] rfl ?_
      exact H
    · replace H := H.2 c
      refine x_lconst (v := (1 : Int64)) dX2_setUnit_34 (by decide) ?_
      refine x_goto (tgt := 39) dX2_setUnit_35 (by decide) ?_
      obtain ⟨h4, eh4, H⟩ := H
      refine x_lastore dX2_setUnit_39 eh4 ?_
      refine x_iinc (q := 3) (v := (i3 + (1 : Int32))) dX2_setUnit_40 rfl rfl (by decide) (lv' := [(3, .int (i3 + (1 : Int32))), (0, .ref r0), (1, .ref r1), (2, .int i2)]) rfl ?_
      refine x_goto (tgt := 12) dX2_setUnit_43 (by decide) ?_
      refine x_perm [1, 2, 3, 0] rfl ?_
      exact H
def L_X2_multiply_3 (d : Nat) (P : Hp → Prop) (h : Hp) (r0 : Nat) (r1 : Nat) (r2 : Nat) (r3 : Nat) (i4 : Int32) : Prop := X (KM (none) (fun r h' => r = none ∧ P h')) RX2 cX2_multiply 6 (d + 1) h 3 [(0, .ref r0), (1, .ref r1), (2, .ref r2), (3, .ref r3), (4, .int i4)] []
def L_X2_multiply_15 (d : Nat) (P : Hp → Prop) (h : Hp) (r0 : Nat) (r1 : Nat) (r2 : Nat) (r3 : Nat) (i4 : Int32) (i5 : Int32) : Prop := X (KM (none) (fun r h' => r = none ∧ P h')) RX2 cX2_multiply 6 (d + 1) h 15 [(0, .ref r0), (1, .ref r1), (2, .ref r2), (3, .ref r3), (4, .int i4), (5, .int i5)] []
set_option maxRecDepth 20000 in
theorem e_X2_multiply {d : Nat} {P : Hp → Prop} {h : Hp} {r0 : Nat} {r1 : Nat} {r2 : Nat} {r3 : Nat} (ho : r0 < 47 ∧ ∃ fs, h r0 = .inr (2, fs)) (H : L_X2_multiply_3 d P h r0 r1 r2 r3 (0 : Int32)) : CV M_X2_multiply (d + 1) [.ref r0, .ref r1, .ref r2, .ref r3] h P := by
  refine ⟨⟨r0, rfl, ho⟩, x_enter (by decide) (Nat.le_of_ble_eq_true rfl) ?_⟩
  show X (KM (none) (fun r h' => r = none ∧ P h')) RX2 cX2_multiply 6 (d + 1) h 0 [(0, .ref r0), (1, .ref r1), (2, .ref r2), (3, .ref r3)] []
  refine x_iconst (v := (0 : Int32)) dX2_multiply_0 (by decide) ?_
  refine x_istore dX2_multiply_1 (by decide) (lv' := [(4, .int (0 : Int32)), (0, .ref r0), (1, .ref r1), (2, .ref r2), (3, .ref r3)]) rfl ?_
  refine x_perm [1, 2, 3, 4, 0] rfl ?_
  exact H
set_option maxRecDepth 20000 in
theorem r_X2_multiply_3 {d : Nat} {P : Hp → Prop} {h : Hp} {r0 : Nat} {r1 : Nat} {r2 : Nat} {r3 : Nat} {i4 : Int32} (H : ∃ x1, gI h 2 r0 3 = some x1 ∧ ((x1 ≤ i4 → P h) ∧
  (¬ x1 ≤ i4 → L_X2_multiply_15 d P h r0 r1 r2 r3 i4 (0 : Int32)))) : L_X2_multiply_3 d P h r0 r1 r2 r3 i4 := by
  show X (KM (none) (fun r h' => r = none ∧ P h')) RX2 cX2_multiply 6 (d + 1) h 3 [(0, .ref r0), (1, .ref r1), (2, .ref r2), (3, .ref r3), (4, .int i4)] []
  refine x_iload dX2_multiply_3 4 rfl ?_
  refine x_aload_n dX2_multiply_5 rfl 0 rfl ?_
  obtain ⟨x1, ex1, H⟩ := H
  refine x_getI fl_X2_23 dX2_multiply_6 ex1 ?_
  refine x_icmp_ge (tgt := 58) dX2_multiply_9 (by decide) (fun c => ?_) (fun c => ?_)
  · replace H := H.1 c
    exact x_vret dX2_multiply_58 ⟨rfl, H⟩
  · replace H := H.2 c
    refine x_iconst (v := (0 : Int32)) dX2_multiply_12 (by decide) ?_
    refine x_istore dX2_multiply_13 (by decide) (lv' := [(5, .int (0 : Int32)), (0, .ref r0), (1, .ref r1), (2, .ref r2), (3, .ref r3), (4, .int i4)]) rfl ?_
    refine x_perm [1, 2, 3, 4, 5, 0] rfl ?_
    exact H
set_option maxRecDepth 20000 in
theorem r_X2_multiply_15 {d : Nat} {P : Hp → Prop} {h : Hp} {r0 : Nat} {r1 : Nat} {r2 : Nat} {r3 : Nat} {i4 : Int32} {i5 : Int32} (H : ∃ x1, gI h 2 r0 3 = some x1 ∧ ((x1 ≤ i5 → L_X2_multiply_3 d P h r0 r1 r2 r3 (i4 + (1 : Int32))) ∧
  (¬ x1 ≤ i5 → ∃ x2, gI h 2 r0 3 = some x2 ∧ CJ M_X2_rowTimesColumn d [.ref r0, .ref r1, .ref r2, .int i4, .int i5] h (fun x4 h3 => ∃ h5, sJ h3 r3 ((x2 * i4) + i5) x4 = some h5 ∧ L_X2_multiply_15 d P h5 r0 r1 r2 r3 i4 (i5 + (1 : Int32)))))) : L_X2_multiply_15 d P h r0 r1 r2 r3 i4 i5 := by
  show X (KM (none) (fun r h' => r = none ∧ P h')) RX2 cX2_multiply 6 (d + 1) h 15 [(0, .ref r0), (1, .ref r1), (2, .ref r2), (3, .ref r3), (4, .int i4), (5, .int i5)] []
  refine x_iload dX2_multiply_15 5 rfl ?_
  refine x_aload_n dX2_multiply_17 rfl 0 rfl ?_
  obtain ⟨x1, ex1, H⟩ := H
  refine x_getI fl_X2_23 dX2_multiply_18 ex1 ?_
  refine x_icmp_ge (tgt := 52) dX2_multiply_21 (by decide) (fun c => ?_) (fun c => ?_)
  · replace H := H.1 c
    refine x_iinc (q := 4) (v := (i4 + (1 : Int32))) dX2_multiply_52 rfl rfl (by decide) (lv' := [(4, .int (i4 + (1 : Int32))), (0, .ref r0), (1, .ref r1), (2, .ref r2), (3, .ref r3), (5, .int i5)]) rfl ?_
    refine x_goto (tgt := 3) dX2_multiply_55 (by decide) ?_
    refine x_perm [1, 2, 3, 4, 0] rfl ?_
    exact H
  · replace H := H.2 c
    refine x_aload_n dX2_multiply_24 rfl 3 rfl ?_
    refine x_aload_n dX2_multiply_25 rfl 0 rfl ?_
    obtain ⟨x2, ex2, H⟩ := H
    refine x_getI fl_X2_23 dX2_multiply_26 ex2 ?_
    refine x_iload dX2_multiply_29 4 rfl ?_
    refine x_imul dX2_multiply_31 ?_
    refine x_iload dX2_multiply_32 5 rfl ?_
    refine x_iadd dX2_multiply_34 ?_
    refine x_aload_n dX2_multiply_35 rfl 0 rfl ?_
    refine x_aload_n dX2_multiply_36 rfl 1 rfl ?_
    refine x_aload_n dX2_multiply_37 rfl 2 rfl ?_
    refine x_iload dX2_multiply_38 4 rfl ?_
    refine x_iload dX2_multiply_40 5 rfl ?_
    refine x_vJ vl_X2_49 dX2_multiply_42 (As := [.ref r1, .ref r2, .int i4, .int i5]) rfl rfl (Nat.le_of_ble_eq_true rfl) (CJ.mono H (fun x4 h3 H => ?_))
    obtain ⟨h5, eh5, H⟩ := H
    refine x_lastore dX2_multiply_45 eh5 ?_
    refine x_iinc (q := 5) (v := (i5 + (1 : Int32))) dX2_multiply_46 rfl rfl (by decide) (lv' := [(5, .int (i5 + (1 : Int32))), (0, .ref r0), (1, .ref r1), (2, .ref r2), (3, .ref r3), (4, .int i4)]) rfl ?_
    refine x_goto (tgt := 15) dX2_multiply_49 (by decide) ?_
    refine x_perm [1, 2, 3, 4, 5, 0] rfl ?_
    exact H
def L_X2_rowTimesColumn_30 (d : Nat) (P : Int64 → Hp → Prop) (h : Hp) (r0 : Nat) (r2 : Nat) (i3 : Int32) (i4 : Int32) (l5 : Int64) (i7 : Int32) (i8 : Int32) : Prop := X (KM (some .long) (fun r h' => ∃ x, r = some (.long x) ∧ P x h')) RX2 cX2_rowTimesColumn 11 (d + 1) h 30 [(0, .ref r0), (2, .ref r2), (3, .int i3), (4, .int i4), (5, .long l5), (7, .int i7), (8, .int i8)] []
set_option maxRecDepth 20000 in
theorem e_X2_rowTimesColumn {d : Nat} {P : Int64 → Hp → Prop} {h : Hp} {r0 : Nat} {r1 : Nat} {r2 : Nat} {i3 : Int32} {i4 : Int32} (ho : r0 < 47 ∧ ∃ fs, h r0 = .inr (2, fs)) (H : ∃ x1, gI h 2 r0 4 = some x1 ∧ ∃ x2, gI h 2 r0 3 = some x2 ∧ ∃ x3, lJ h r2 ((x2 * i3) + i4) = some x3 ∧ ∃ q4, gR h 3 r1 0 = some q4 ∧ ∃ x5, lI h q4 i3 = some x5 ∧ L_X2_rowTimesColumn_30 d P h r0 r2 i3 i4 (x1.toInt64 * x3) x5 (0 : Int32)) : CJ M_X2_rowTimesColumn (d + 1) [.ref r0, .ref r1, .ref r2, .int i3, .int i4] h P := by
  refine ⟨⟨r0, rfl, ho⟩, x_enter (by decide) (Nat.le_of_ble_eq_true rfl) ?_⟩
  show X (KM (some .long) (fun r h' => ∃ x, r = some (.long x) ∧ P x h')) RX2 cX2_rowTimesColumn 11 (d + 1) h 0 [(0, .ref r0), (1, .ref r1), (2, .ref r2), (3, .int i3), (4, .int i4)] []
  refine x_aload_n dX2_rowTimesColumn_0 rfl 0 rfl ?_
  obtain ⟨x1, ex1, H⟩ := H
  refine x_getI fl_X2_27 dX2_rowTimesColumn_1 ex1 ?_
  refine x_i2l dX2_rowTimesColumn_4 ?_
  refine x_aload_n dX2_rowTimesColumn_5 rfl 2 rfl ?_
  refine x_aload_n dX2_rowTimesColumn_6 rfl 0 rfl ?_
  obtain ⟨x2, ex2, H⟩ := H
  refine x_getI fl_X2_23 dX2_rowTimesColumn_7 ex2 ?_
  refine x_iload_n dX2_rowTimesColumn_10 rfl 3 rfl ?_
  refine x_imul dX2_rowTimesColumn_11 ?_
  refine x_iload dX2_rowTimesColumn_12 4 rfl ?_
  refine x_iadd dX2_rowTimesColumn_14 ?_
  obtain ⟨x3, ex3, H⟩ := H
  refine x_laload dX2_rowTimesColumn_15 ex3 ?_
  refine x_lmul dX2_rowTimesColumn_16 ?_
  refine x_lstore dX2_rowTimesColumn_17 (by decide) (lv' := [(5, .long (x1.toInt64 * x3)), (0, .ref r0), (1, .ref r1), (2, .ref r2), (3, .int i3), (4, .int i4)]) rfl ?_
  refine x_aload_n dX2_rowTimesColumn_19 rfl 2 rfl ?_
  obtain ⟨q4, eq4, H⟩ := H
  refine x_getR fl_X2_53 dX2_rowTimesColumn_20 eq4 ?_
  refine x_iload_n dX2_rowTimesColumn_23 rfl 4 rfl ?_
  obtain ⟨x5, ex5, H⟩ := H
  refine x_iaload dX2_rowTimesColumn_24 ex5 ?_
  refine x_istore dX2_rowTimesColumn_25 (by decide) (lv' := [(7, .int x5), (5, .long (x1.toInt64 * x3)), (0, .ref r0), (1, .ref r1), (2, .ref r2), (3, .int i3), (4, .int i4)]) rfl ?_
  refine x_iconst (v := (0 : Int32)) dX2_rowTimesColumn_27 (by decide) ?_
  refine x_istore dX2_rowTimesColumn_28 (by decide) (lv' := [(8, .int (0 : Int32)), (7, .int x5), (5, .long (x1.toInt64 * x3)), (0, .ref r0), (1, .ref r1), (2, .ref r2), (3, .int i3), (4, .int i4)]) rfl ?_
  refine x_perm [3, 5, 6, 7, 2, 1, 0] rfl ?_
  exact H
set_option maxRecDepth 20000 in
theorem r_X2_rowTimesColumn_30 {d : Nat} {P : Int64 → Hp → Prop} {h : Hp} {r0 : Nat} {r2 : Nat} {i3 : Int32} {i4 : Int32} {l5 : Int64} {i7 : Int32} {i8 : Int32} (H : ∃ x1, gI h 2 r0 3 = some x1 ∧ ((x1 ≤ i8 → P l5 h) ∧
  (¬ x1 ≤ i8 → ((i8 = i3 → L_X2_rowTimesColumn_30 d P h r0 r2 i3 i4 l5 i7 (i8 + (1 : Int32))) ∧
    (¬ i8 = i3 → ∃ x2, gI h 2 r0 3 = some x2 ∧ ∃ x3, lJ h r2 ((x2 * i8) + i4) = some x3 ∧ ((((iushr i7 i8) &&& (1 : Int32)) = 0 → L_X2_rowTimesColumn_30 d P h r0 r2 i3 i4 (l5 + x3) i7 (i8 + (1 : Int32))) ∧
      (¬ ((iushr i7 i8) &&& (1 : Int32)) = 0 → L_X2_rowTimesColumn_30 d P h r0 r2 i3 i4 (l5 + (-x3)) i7 (i8 + (1 : Int32))))))))) : L_X2_rowTimesColumn_30 d P h r0 r2 i3 i4 l5 i7 i8 := by
  show X (KM (some .long) (fun r h' => ∃ x, r = some (.long x) ∧ P x h')) RX2 cX2_rowTimesColumn 11 (d + 1) h 30 [(0, .ref r0), (2, .ref r2), (3, .int i3), (4, .int i4), (5, .long l5), (7, .int i7), (8, .int i8)] []
  refine x_iload dX2_rowTimesColumn_30 6 rfl ?_
  refine x_aload_n dX2_rowTimesColumn_32 rfl 0 rfl ?_
  obtain ⟨x1, ex1, H⟩ := H
  refine x_getI fl_X2_23 dX2_rowTimesColumn_33 ex1 ?_
  refine x_icmp_ge (tgt := 88) dX2_rowTimesColumn_36 (by decide) (fun c => ?_) (fun c => ?_)
  · replace H := H.1 c
    refine x_lload dX2_rowTimesColumn_88 4 rfl ?_
    exact x_lret dX2_rowTimesColumn_90 ⟨_, rfl, H⟩
  · replace H := H.2 c
    refine x_iload dX2_rowTimesColumn_39 6 rfl ?_
    refine x_iload_n dX2_rowTimesColumn_41 rfl 2 rfl ?_
    refine x_icmp_eq (tgt := 82) dX2_rowTimesColumn_42 (by decide) (fun c => ?_) (fun c => ?_)
    · replace H := H.1 c
      refine x_iinc (q := 6) (v := (i8 + (1 : Int32))) dX2_rowTimesColumn_82 rfl rfl (by decide) (lv' := [(8, .int (i8 + (1 : Int32))), (0, .ref r0), (2, .ref r2), (3, .int i3), (4, .int i4), (5, .long l5), (7, .int i7)]) rfl ?_
      refine x_goto (tgt := 30) dX2_rowTimesColumn_85 (by decide) ?_
      refine x_perm [1, 2, 3, 4, 5, 6, 0] rfl ?_
      exact H
    · replace H := H.2 c
      refine x_aload_n dX2_rowTimesColumn_45 rfl 1 rfl ?_
      refine x_aload_n dX2_rowTimesColumn_46 rfl 0 rfl ?_
      obtain ⟨x2, ex2, H⟩ := H
      refine x_getI fl_X2_23 dX2_rowTimesColumn_47 ex2 ?_
      refine x_iload dX2_rowTimesColumn_50 6 rfl ?_
      refine x_imul dX2_rowTimesColumn_52 ?_
      refine x_iload dX2_rowTimesColumn_53 3 rfl ?_
      refine x_iadd dX2_rowTimesColumn_55 ?_
      obtain ⟨x3, ex3, H⟩ := H
      refine x_laload dX2_rowTimesColumn_56 ex3 ?_
      refine x_lstore dX2_rowTimesColumn_57 (by decide) (lv' := [(9, .long x3), (0, .ref r0), (2, .ref r2), (3, .int i3), (4, .int i4), (5, .long l5), (7, .int i7), (8, .int i8)]) rfl ?_
      refine x_lload dX2_rowTimesColumn_59 5 rfl ?_
      refine x_iload dX2_rowTimesColumn_61 6 rfl ?_
      refine x_iload dX2_rowTimesColumn_63 7 rfl ?_
      refine x_iushr dX2_rowTimesColumn_65 ?_
      refine x_iconst (v := (1 : Int32)) dX2_rowTimesColumn_66 (by decide) ?_
      refine x_iand dX2_rowTimesColumn_67 ?_
      refine x_if_eq (tgt := 77) dX2_rowTimesColumn_68 (by decide) (fun c => ?_) (fun c => ?_)
      · replace H := H.1 c
        refine x_lload dX2_rowTimesColumn_77 0 rfl ?_
        refine x_ladd dX2_rowTimesColumn_79 ?_
        refine x_lstore dX2_rowTimesColumn_80 (by decide) (lv' := [(5, .long (l5 + x3)), (9, .long x3), (0, .ref r0), (2, .ref r2), (3, .int i3), (4, .int i4), (7, .int i7), (8, .int i8)]) rfl ?_
        refine x_iinc (q := 7) (v := (i8 + (1 : Int32))) dX2_rowTimesColumn_82 rfl rfl (by decide) (lv' := [(8, .int (i8 + (1 : Int32))), (5, .long (l5 + x3)), (9, .long x3), (0, .ref r0), (2, .ref r2), (3, .int i3), (4, .int i4), (7, .int i7)]) rfl ?_
        refine x_goto (tgt := 30) dX2_rowTimesColumn_85 (by decide) ?_
        refine x_perm [3, 4, 5, 6, 1, 7, 0] rfl ?_
        exact H
      · replace H := H.2 c
        refine x_lload dX2_rowTimesColumn_71 0 rfl ?_
        refine x_lneg dX2_rowTimesColumn_73 ?_
        refine x_goto (tgt := 79) dX2_rowTimesColumn_74 (by decide) ?_
        refine x_ladd dX2_rowTimesColumn_79 ?_
        refine x_lstore dX2_rowTimesColumn_80 (by decide) (lv' := [(5, .long (l5 + (-x3))), (9, .long x3), (0, .ref r0), (2, .ref r2), (3, .int i3), (4, .int i4), (7, .int i7), (8, .int i8)]) rfl ?_
        refine x_iinc (q := 7) (v := (i8 + (1 : Int32))) dX2_rowTimesColumn_82 rfl rfl (by decide) (lv' := [(8, .int (i8 + (1 : Int32))), (5, .long (l5 + (-x3))), (9, .long x3), (0, .ref r0), (2, .ref r2), (3, .int i3), (4, .int i4), (7, .int i7)]) rfl ?_
        refine x_goto (tgt := 30) dX2_rowTimesColumn_85 (by decide) ?_
        refine x_perm [3, 4, 5, 6, 1, 7, 0] rfl ?_
        exact H
def L_X2_trace_5 (d : Nat) (P : Int64 → Hp → Prop) (h : Hp) (r0 : Nat) (r1 : Nat) (l2 : Int64) (i4 : Int32) : Prop := X (KM (some .long) (fun r h' => ∃ x, r = some (.long x) ∧ P x h')) RX2 cX2_trace 5 (d + 1) h 5 [(0, .ref r0), (1, .ref r1), (2, .long l2), (4, .int i4)] []
set_option maxRecDepth 20000 in
theorem e_X2_trace {d : Nat} {P : Int64 → Hp → Prop} {h : Hp} {r0 : Nat} {r1 : Nat} (ho : r0 < 47 ∧ ∃ fs, h r0 = .inr (2, fs)) (H : L_X2_trace_5 d P h r0 r1 (0 : Int64) (0 : Int32)) : CJ M_X2_trace (d + 1) [.ref r0, .ref r1] h P := by
  refine ⟨⟨r0, rfl, ho⟩, x_enter (by decide) (Nat.le_of_ble_eq_true rfl) ?_⟩
  show X (KM (some .long) (fun r h' => ∃ x, r = some (.long x) ∧ P x h')) RX2 cX2_trace 5 (d + 1) h 0 [(0, .ref r0), (1, .ref r1)] []
  refine x_lconst (v := (0 : Int64)) dX2_trace_0 (by decide) ?_
  refine x_lstore_n dX2_trace_1 rfl (by decide) (lv' := [(2, .long (0 : Int64)), (0, .ref r0), (1, .ref r1)]) rfl ?_
  refine x_iconst (v := (0 : Int32)) dX2_trace_2 (by decide) ?_
  refine x_istore dX2_trace_3 (by decide) (lv' := [(4, .int (0 : Int32)), (2, .long (0 : Int64)), (0, .ref r0), (1, .ref r1)]) rfl ?_
  refine x_perm [2, 3, 1, 0] rfl ?_
  exact H
set_option maxRecDepth 20000 in
theorem r_X2_trace_5 {d : Nat} {P : Int64 → Hp → Prop} {h : Hp} {r0 : Nat} {r1 : Nat} {l2 : Int64} {i4 : Int32} (H : ∃ x1, gI h 2 r0 3 = some x1 ∧ ((x1 ≤ i4 → P l2 h) ∧
  (¬ x1 ≤ i4 → ∃ x2, gI h 2 r0 3 = some x2 ∧ ∃ x3, lJ h r1 ((x2 * i4) + i4) = some x3 ∧ L_X2_trace_5 d P h r0 r1 (l2 + x3) (i4 + (1 : Int32))))) : L_X2_trace_5 d P h r0 r1 l2 i4 := by
  show X (KM (some .long) (fun r h' => ∃ x, r = some (.long x) ∧ P x h')) RX2 cX2_trace 5 (d + 1) h 5 [(0, .ref r0), (1, .ref r1), (2, .long l2), (4, .int i4)] []
  refine x_iload dX2_trace_5 3 rfl ?_
  refine x_aload_n dX2_trace_7 rfl 0 rfl ?_
  obtain ⟨x1, ex1, H⟩ := H
  refine x_getI fl_X2_23 dX2_trace_8 ex1 ?_
  refine x_icmp_ge (tgt := 35) dX2_trace_11 (by decide) (fun c => ?_) (fun c => ?_)
  · replace H := H.1 c
    refine x_lload_n dX2_trace_35 rfl 2 rfl ?_
    exact x_lret dX2_trace_36 ⟨_, rfl, H⟩
  · replace H := H.2 c
    refine x_lload_n dX2_trace_14 rfl 2 rfl ?_
    refine x_aload_n dX2_trace_15 rfl 1 rfl ?_
    refine x_aload_n dX2_trace_16 rfl 0 rfl ?_
    obtain ⟨x2, ex2, H⟩ := H
    refine x_getI fl_X2_23 dX2_trace_17 ex2 ?_
    refine x_iload dX2_trace_20 3 rfl ?_
    refine x_imul dX2_trace_22 ?_
    refine x_iload dX2_trace_23 3 rfl ?_
    refine x_iadd dX2_trace_25 ?_
    obtain ⟨x3, ex3, H⟩ := H
    refine x_laload dX2_trace_26 ex3 ?_
    refine x_ladd dX2_trace_27 ?_
    refine x_lstore_n dX2_trace_28 rfl (by decide) (lv' := [(2, .long (l2 + x3)), (0, .ref r0), (1, .ref r1), (4, .int i4)]) rfl ?_
    refine x_iinc (q := 3) (v := (i4 + (1 : Int32))) dX2_trace_29 rfl rfl (by decide) (lv' := [(4, .int (i4 + (1 : Int32))), (2, .long (l2 + x3)), (0, .ref r0), (1, .ref r1)]) rfl ?_
    refine x_goto (tgt := 5) dX2_trace_32 (by decide) ?_
    refine x_perm [2, 3, 1, 0] rfl ?_
    exact H
def L_X2_takeFromUnits_3 (d : Nat) (P : Hp → Prop) (h : Hp) (r0 : Nat) (l1 : Int64) (r3 : Nat) (i4 : Int32) : Prop := X (KM (none) (fun r h' => r = none ∧ P h')) RX2 cX2_takeFromUnits 7 (d + 1) h 3 [(0, .ref r0), (1, .long l1), (3, .ref r3), (4, .int i4)] []
def L_X2_takeFromUnits_15 (d : Nat) (P : Hp → Prop) (h : Hp) (r0 : Nat) (l1 : Int64) (r3 : Nat) (i4 : Int32) (i5 : Int32) : Prop := X (KM (none) (fun r h' => r = none ∧ P h')) RX2 cX2_takeFromUnits 7 (d + 1) h 15 [(0, .ref r0), (1, .long l1), (3, .ref r3), (4, .int i4), (5, .int i5)] []
set_option maxRecDepth 20000 in
theorem e_X2_takeFromUnits {d : Nat} {P : Hp → Prop} {h : Hp} {r0 : Nat} {l1 : Int64} {r3 : Nat} (ho : r0 < 47 ∧ ∃ fs, h r0 = .inr (2, fs)) (H : L_X2_takeFromUnits_3 d P h r0 l1 r3 (0 : Int32)) : CV M_X2_takeFromUnits (d + 1) [.ref r0, .long l1, .ref r3] h P := by
  refine ⟨⟨r0, rfl, ho⟩, x_enter (by decide) (Nat.le_of_ble_eq_true rfl) ?_⟩
  show X (KM (none) (fun r h' => r = none ∧ P h')) RX2 cX2_takeFromUnits 7 (d + 1) h 0 [(0, .ref r0), (1, .long l1), (3, .ref r3)] []
  refine x_iconst (v := (0 : Int32)) dX2_takeFromUnits_0 (by decide) ?_
  refine x_istore dX2_takeFromUnits_1 (by decide) (lv' := [(4, .int (0 : Int32)), (0, .ref r0), (1, .long l1), (3, .ref r3)]) rfl ?_
  refine x_perm [1, 2, 3, 0] rfl ?_
  exact H
set_option maxRecDepth 20000 in
theorem r_X2_takeFromUnits_3 {d : Nat} {P : Hp → Prop} {h : Hp} {r0 : Nat} {l1 : Int64} {r3 : Nat} {i4 : Int32} (H : ∃ x1, gI h 2 r0 3 = some x1 ∧ ((x1 ≤ i4 → P h) ∧
  (¬ x1 ≤ i4 → L_X2_takeFromUnits_15 d P h r0 l1 r3 i4 (0 : Int32)))) : L_X2_takeFromUnits_3 d P h r0 l1 r3 i4 := by
  show X (KM (none) (fun r h' => r = none ∧ P h')) RX2 cX2_takeFromUnits 7 (d + 1) h 3 [(0, .ref r0), (1, .long l1), (3, .ref r3), (4, .int i4)] []
  refine x_iload dX2_takeFromUnits_3 3 rfl ?_
  refine x_aload_n dX2_takeFromUnits_5 rfl 0 rfl ?_
  obtain ⟨x1, ex1, H⟩ := H
  refine x_getI fl_X2_23 dX2_takeFromUnits_6 ex1 ?_
  refine x_icmp_ge (tgt := 73) dX2_takeFromUnits_9 (by decide) (fun c => ?_) (fun c => ?_)
  · replace H := H.1 c
    exact x_vret dX2_takeFromUnits_73 ⟨rfl, H⟩
  · replace H := H.2 c
    refine x_iconst (v := (0 : Int32)) dX2_takeFromUnits_12 (by decide) ?_
    refine x_istore dX2_takeFromUnits_13 (by decide) (lv' := [(5, .int (0 : Int32)), (0, .ref r0), (1, .long l1), (3, .ref r3), (4, .int i4)]) rfl ?_
    refine x_perm [1, 2, 3, 4, 0] rfl ?_
    exact H
set_option maxRecDepth 20000 in
theorem r_X2_takeFromUnits_15 {d : Nat} {P : Hp → Prop} {h : Hp} {r0 : Nat} {l1 : Int64} {r3 : Nat} {i4 : Int32} {i5 : Int32} (H : ∃ x1, gI h 2 r0 3 = some x1 ∧ ((x1 ≤ i5 → L_X2_takeFromUnits_3 d P h r0 l1 r3 (i4 + (1 : Int32))) ∧
  (¬ x1 ≤ i5 → ∃ x2, gI h 2 r0 3 = some x2 ∧ ((¬ i4 = i5 → ∃ x3, lJ h r3 ((x2 * i4) + i5) = some x3 ∧ ∃ h4, sJ h r3 ((x2 * i4) + i5) (-x3) = some h4 ∧ L_X2_takeFromUnits_15 d P h4 r0 l1 r3 i4 (i5 + (1 : Int32))) ∧
    (i4 = i5 → ∃ x5, lJ h r3 ((x2 * i4) + i5) = some x5 ∧ ∃ h6, sJ h r3 ((x2 * i4) + i5) (l1 - x5) = some h6 ∧ L_X2_takeFromUnits_15 d P h6 r0 l1 r3 i4 (i5 + (1 : Int32))))))) : L_X2_takeFromUnits_15 d P h r0 l1 r3 i4 i5 := by
  show X (KM (none) (fun r h' => r = none ∧ P h')) RX2 cX2_takeFromUnits 7 (d + 1) h 15 [(0, .ref r0), (1, .long l1), (3, .ref r3), (4, .int i4), (5, .int i5)] []
  refine x_iload dX2_takeFromUnits_15 4 rfl ?_
  refine x_aload_n dX2_takeFromUnits_17 rfl 0 rfl ?_
  obtain ⟨x1, ex1, H⟩ := H
  refine x_getI fl_X2_23 dX2_takeFromUnits_18 ex1 ?_
  refine x_icmp_ge (tgt := 67) dX2_takeFromUnits_21 (by decide) (fun c => ?_) (fun c => ?_)
  · replace H := H.1 c
    refine x_iinc (q := 3) (v := (i4 + (1 : Int32))) dX2_takeFromUnits_67 rfl rfl (by decide) (lv' := [(4, .int (i4 + (1 : Int32))), (0, .ref r0), (1, .long l1), (3, .ref r3), (5, .int i5)]) rfl ?_
    refine x_goto (tgt := 3) dX2_takeFromUnits_70 (by decide) ?_
    refine x_perm [1, 2, 3, 0] rfl ?_
    exact H
  · replace H := H.2 c
    refine x_aload_n dX2_takeFromUnits_24 rfl 0 rfl ?_
    obtain ⟨x2, ex2, H⟩ := H
    refine x_getI fl_X2_23 dX2_takeFromUnits_25 ex2 ?_
    refine x_iload dX2_takeFromUnits_28 3 rfl ?_
    refine x_imul dX2_takeFromUnits_30 ?_
    refine x_iload dX2_takeFromUnits_31 4 rfl ?_
    refine x_iadd dX2_takeFromUnits_33 ?_
    refine x_istore dX2_takeFromUnits_34 (by decide) (lv' := [(6, .int ((x2 * i4) + i5)), (0, .ref r0), (1, .long l1), (3, .ref r3), (4, .int i4), (5, .int i5)]) rfl ?_
    refine x_aload_n dX2_takeFromUnits_36 rfl 3 rfl ?_
    refine x_iload dX2_takeFromUnits_37 0 rfl ?_
    refine x_iload dX2_takeFromUnits_39 4 rfl ?_
    refine x_iload dX2_takeFromUnits_41 5 rfl ?_
    refine x_icmp_ne (tgt := 55) dX2_takeFromUnits_43 (by decide) (fun c => ?_) (fun c => ?_)
    · replace H := H.1 c
      refine x_aload_n dX2_takeFromUnits_55 rfl 3 rfl ?_
      refine x_iload dX2_takeFromUnits_56 0 rfl ?_
      obtain ⟨x3, ex3, H⟩ := H
      refine x_laload dX2_takeFromUnits_58 ex3 ?_
      refine x_lneg dX2_takeFromUnits_59 ?_
      obtain ⟨h4, eh4, H⟩ := H
      refine x_lastore dX2_takeFromUnits_60 eh4 ?_
      refine x_iinc (q := 5) (v := (i5 + (1 : Int32))) dX2_takeFromUnits_61 rfl rfl (by decide) (lv' := [(5, .int (i5 + (1 : Int32))), (6, .int ((x2 * i4) + i5)), (0, .ref r0), (1, .long l1), (3, .ref r3), (4, .int i4)]) rfl ?_
      refine x_goto (tgt := 15) dX2_takeFromUnits_64 (by decide) ?_
      refine x_perm [2, 3, 4, 5, 0] rfl ?_
      exact H
    · replace H := H.2 c
      refine x_lload_n dX2_takeFromUnits_46 rfl 2 rfl ?_
      refine x_aload_n dX2_takeFromUnits_47 rfl 3 rfl ?_
      refine x_iload dX2_takeFromUnits_48 0 rfl ?_
      obtain ⟨x5, ex5, H⟩ := H
      refine x_laload dX2_takeFromUnits_50 ex5 ?_
      refine x_lsub dX2_takeFromUnits_51 ?_
      refine x_goto (tgt := 60) dX2_takeFromUnits_52 (by decide) ?_
      obtain ⟨h6, eh6, H⟩ := H
      refine x_lastore dX2_takeFromUnits_60 eh6 ?_
      refine x_iinc (q := 5) (v := (i5 + (1 : Int32))) dX2_takeFromUnits_61 rfl rfl (by decide) (lv' := [(5, .int (i5 + (1 : Int32))), (6, .int ((x2 * i4) + i5)), (0, .ref r0), (1, .long l1), (3, .ref r3), (4, .int i4)]) rfl ?_
      refine x_goto (tgt := 15) dX2_takeFromUnits_64 (by decide) ?_
      refine x_perm [2, 3, 4, 5, 0] rfl ?_
      exact H
def L_X2_noneBelowZero_2 (d : Nat) (P : Int32 → Hp → Prop) (h : Hp) (r0 : Nat) (i1 : Int32) : Prop := X (KM (some .boolean) (fun r h' => ∃ x, r = some (.int x) ∧ P x h')) RX2 cX2_noneBelowZero 2 (d + 1) h 2 [(0, .ref r0), (1, .int i1)] []
set_option maxRecDepth 20000 in
theorem e_X2_noneBelowZero {d : Nat} {P : Int32 → Hp → Prop} {h : Hp} {r0 : Nat} (ho : r0 < 47 ∧ ∃ fs, h r0 = .inr (2, fs)) (H : L_X2_noneBelowZero_2 d P h r0 (1 : Int32)) : CI M_X2_noneBelowZero (d + 1) [.ref r0] h P := by
  refine ⟨⟨r0, rfl, ho⟩, x_enter (by decide) (Nat.le_of_ble_eq_true rfl) ?_⟩
  show X (KM (some .boolean) (fun r h' => ∃ x, r = some (.int x) ∧ P x h')) RX2 cX2_noneBelowZero 2 (d + 1) h 0 [(0, .ref r0)] []
  refine x_iconst (v := (1 : Int32)) dX2_noneBelowZero_0 (by decide) ?_
  refine x_istore_n dX2_noneBelowZero_1 rfl (by decide) (lv' := [(1, .int (1 : Int32)), (0, .ref r0)]) rfl ?_
  refine x_perm [1, 0] rfl ?_
  exact H
set_option maxRecDepth 20000 in
theorem r_X2_noneBelowZero_2 {d : Nat} {P : Int32 → Hp → Prop} {h : Hp} {r0 : Nat} {i1 : Int32} (H : ∃ x1, gI h 2 r0 3 = some x1 ∧ ((x1 < i1 → P (1 : Int32) h) ∧
  (¬ x1 < i1 → ∃ q2, gR h 2 r0 0 = some q2 ∧ ∃ x3, lJ h q2 i1 = some x3 ∧ ((0 ≤ (lcmp x3 (0 : Int64)) → L_X2_noneBelowZero_2 d P h r0 (i1 + (1 : Int32))) ∧
    (¬ 0 ≤ (lcmp x3 (0 : Int64)) → P (0 : Int32) h))))) : L_X2_noneBelowZero_2 d P h r0 i1 := by
  show X (KM (some .boolean) (fun r h' => ∃ x, r = some (.int x) ∧ P x h')) RX2 cX2_noneBelowZero 2 (d + 1) h 2 [(0, .ref r0), (1, .int i1)] []
  refine x_iload_n dX2_noneBelowZero_2 rfl 1 rfl ?_
  refine x_aload_n dX2_noneBelowZero_3 rfl 0 rfl ?_
  obtain ⟨x1, ex1, H⟩ := H
  refine x_getI fl_X2_23 dX2_noneBelowZero_4 ex1 ?_
  refine x_icmp_gt (tgt := 29) dX2_noneBelowZero_7 (by decide) (fun c => ?_) (fun c => ?_)
  · replace H := H.1 c
    refine x_iconst (v := (1 : Int32)) dX2_noneBelowZero_29 (by decide) ?_
    exact x_zret dX2_noneBelowZero_30 (by decide) ⟨_, rfl, H⟩
  · replace H := H.2 c
    refine x_aload_n dX2_noneBelowZero_10 rfl 0 rfl ?_
    obtain ⟨q2, eq2, H⟩ := H
    refine x_getR fl_X2_9 dX2_noneBelowZero_11 eq2 ?_
    refine x_iload_n dX2_noneBelowZero_14 rfl 1 rfl ?_
    obtain ⟨x3, ex3, H⟩ := H
    refine x_laload dX2_noneBelowZero_15 ex3 ?_
    refine x_lconst (v := (0 : Int64)) dX2_noneBelowZero_16 (by decide) ?_
    refine x_lcmp dX2_noneBelowZero_17 ?_
    refine x_if_ge (tgt := 23) dX2_noneBelowZero_18 (by decide) (fun c => ?_) (fun c => ?_)
    · replace H := H.1 c
      refine x_iinc (q := 1) (v := (i1 + (1 : Int32))) dX2_noneBelowZero_23 rfl rfl (by decide) (lv' := [(1, .int (i1 + (1 : Int32))), (0, .ref r0)]) rfl ?_
      refine x_goto (tgt := 2) dX2_noneBelowZero_26 (by decide) ?_
      refine x_perm [1, 0] rfl ?_
      exact H
    · replace H := H.2 c
      refine x_iconst (v := (0 : Int32)) dX2_noneBelowZero_21 (by decide) ?_
      exact x_zret dX2_noneBelowZero_22 (by decide) ⟨_, rfl, H⟩
def L_X2_dimensions_5 (d : Nat) (P : Int32 → Hp → Prop) (h : Hp) (r0 : Nat) (i1 : Int32) : Prop := X (KM (some .int) (fun r h' => ∃ x, r = some (.int x) ∧ P x h')) RX2 cX2_dimensions 2 (d + 1) h 5 [(0, .ref r0), (1, .int i1)] []
set_option maxRecDepth 20000 in
theorem e_X2_dimensions {d : Nat} {P : Int32 → Hp → Prop} {h : Hp} {r0 : Nat} (ho : r0 < 47 ∧ ∃ fs, h r0 = .inr (2, fs)) (H : ∃ x1, gI h 2 r0 3 = some x1 ∧ L_X2_dimensions_5 d P h r0 x1) : CI M_X2_dimensions (d + 1) [.ref r0] h P := by
  refine ⟨⟨r0, rfl, ho⟩, x_enter (by decide) (Nat.le_of_ble_eq_true rfl) ?_⟩
  show X (KM (some .int) (fun r h' => ∃ x, r = some (.int x) ∧ P x h')) RX2 cX2_dimensions 2 (d + 1) h 0 [(0, .ref r0)] []
  refine x_aload_n dX2_dimensions_0 rfl 0 rfl ?_
  obtain ⟨x1, ex1, H⟩ := H
  refine x_getI fl_X2_23 dX2_dimensions_1 ex1 ?_
  refine x_istore_n dX2_dimensions_4 rfl (by decide) (lv' := [(1, .int x1), (0, .ref r0)]) rfl ?_
  refine x_perm [1, 0] rfl ?_
  exact H
set_option maxRecDepth 20000 in
theorem r_X2_dimensions_5 {d : Nat} {P : Int32 → Hp → Prop} {h : Hp} {r0 : Nat} {i1 : Int32} (H : ((i1 ≤ 0 → P (0 : Int32) h) ∧
  (¬ i1 ≤ 0 → ∃ q1, gR h 2 r0 0 = some q1 ∧ ∃ x2, lJ h q1 i1 = some x2 ∧ (((lcmp x2 (0 : Int64)) = 0 → L_X2_dimensions_5 d P h r0 (i1 + (-1 : Int32))) ∧
    (¬ (lcmp x2 (0 : Int64)) = 0 → P i1 h))))) : L_X2_dimensions_5 d P h r0 i1 := by
  show X (KM (some .int) (fun r h' => ∃ x, r = some (.int x) ∧ P x h')) RX2 cX2_dimensions 2 (d + 1) h 5 [(0, .ref r0), (1, .int i1)] []
  refine x_iload_n dX2_dimensions_5 rfl 1 rfl ?_
  refine x_if_le (tgt := 28) dX2_dimensions_6 (by decide) (fun c => ?_) (fun c => ?_)
  · replace H := H.1 c
    refine x_iconst (v := (0 : Int32)) dX2_dimensions_28 (by decide) ?_
    exact x_iret dX2_dimensions_29 ⟨_, rfl, H⟩
  · replace H := H.2 c
    refine x_aload_n dX2_dimensions_9 rfl 0 rfl ?_
    obtain ⟨q1, eq1, H⟩ := H
    refine x_getR fl_X2_9 dX2_dimensions_10 eq1 ?_
    refine x_iload_n dX2_dimensions_13 rfl 1 rfl ?_
    obtain ⟨x2, ex2, H⟩ := H
    refine x_laload dX2_dimensions_14 ex2 ?_
    refine x_lconst (v := (0 : Int64)) dX2_dimensions_15 (by decide) ?_
    refine x_lcmp dX2_dimensions_16 ?_
    refine x_if_eq (tgt := 22) dX2_dimensions_17 (by decide) (fun c => ?_) (fun c => ?_)
    · replace H := H.1 c
      refine x_iinc (q := 1) (v := (i1 + (-1 : Int32))) dX2_dimensions_22 rfl rfl (by decide) (lv' := [(1, .int (i1 + (-1 : Int32))), (0, .ref r0)]) rfl ?_
      refine x_goto (tgt := 5) dX2_dimensions_25 (by decide) ?_
      refine x_perm [1, 0] rfl ?_
      exact H
    · replace H := H.2 c
      refine x_iload_n dX2_dimensions_20 rfl 1 rfl ?_
      exact x_iret dX2_dimensions_21 ⟨_, rfl, H⟩
def L_X2_timesOwn_2 (d : Nat) (P : Int32 → Hp → Prop) (h : Hp) (r0 : Nat) (i1 : Int32) (i2 : Int32) : Prop := X (KM (some .int) (fun r h' => ∃ x, r = some (.int x) ∧ P x h')) RX2 cX2_timesOwn 5 (d + 1) h 2 [(0, .ref r0), (1, .int i1), (2, .int i2)] []
def L_X2_timesOwn_46 (d : Nat) (P : Int32 → Hp → Prop) (h : Hp) (r0 : Nat) (i1 : Int32) (i2 : Int32) : Prop := X (KM (some .int) (fun r h' => ∃ x, r = some (.int x) ∧ P x h')) RX2 cX2_timesOwn 5 (d + 1) h 46 [(0, .ref r0), (1, .int i1), (2, .int i2)] []
def L_X2_timesOwn_64 (d : Nat) (P : Int32 → Hp → Prop) (h : Hp) (r0 : Nat) (i1 : Int32) (i2 : Int32) (i3 : Int32) (i4 : Int32) : Prop := X (KM (some .int) (fun r h' => ∃ x, r = some (.int x) ∧ P x h')) RX2 cX2_timesOwn 5 (d + 1) h 64 [(0, .ref r0), (1, .int i1), (2, .int i2), (3, .int i3), (4, .int i4)] []
set_option maxRecDepth 20000 in
theorem e_X2_timesOwn {d : Nat} {P : Int32 → Hp → Prop} {h : Hp} {r0 : Nat} {i1 : Int32} (ho : r0 < 47 ∧ ∃ fs, h r0 = .inr (2, fs)) (H : L_X2_timesOwn_2 d P h r0 i1 (0 : Int32)) : CI M_X2_timesOwn (d + 1) [.ref r0, .int i1] h P := by
  refine ⟨⟨r0, rfl, ho⟩, x_enter (by decide) (Nat.le_of_ble_eq_true rfl) ?_⟩
  show X (KM (some .int) (fun r h' => ∃ x, r = some (.int x) ∧ P x h')) RX2 cX2_timesOwn 5 (d + 1) h 0 [(0, .ref r0), (1, .int i1)] []
  refine x_iconst (v := (0 : Int32)) dX2_timesOwn_0 (by decide) ?_
  refine x_istore_n dX2_timesOwn_1 rfl (by decide) (lv' := [(2, .int (0 : Int32)), (0, .ref r0), (1, .int i1)]) rfl ?_
  refine x_perm [1, 2, 0] rfl ?_
  exact H
set_option maxRecDepth 20000 in
theorem r_X2_timesOwn_2 {d : Nat} {P : Int32 → Hp → Prop} {h : Hp} {r0 : Nat} {i1 : Int32} {i2 : Int32} (H : ∃ x1, gI h 2 r0 3 = some x1 ∧ ((x1 < i2 → L_X2_timesOwn_46 d P h r0 i1 (0 : Int32)) ∧
  (¬ x1 < i2 → ∃ q2, gR h 2 r0 2 = some q2 ∧ ((¬ (irem i2 (2 : Int32)) = 0 → ∃ q3, gR h 2 r0 0 = some q3 ∧ ∃ x4, lJ h q3 i2 = some x4 ∧ ∃ h5, sJ h q2 i2 (-x4) = some h5 ∧ L_X2_timesOwn_2 d P h5 r0 i1 (i2 + (1 : Int32))) ∧
    ((irem i2 (2 : Int32)) = 0 → ∃ q6, gR h 2 r0 0 = some q6 ∧ ∃ x7, lJ h q6 i2 = some x7 ∧ ∃ h8, sJ h q2 i2 x7 = some h8 ∧ L_X2_timesOwn_2 d P h8 r0 i1 (i2 + (1 : Int32))))))) : L_X2_timesOwn_2 d P h r0 i1 i2 := by
  show X (KM (some .int) (fun r h' => ∃ x, r = some (.int x) ∧ P x h')) RX2 cX2_timesOwn 5 (d + 1) h 2 [(0, .ref r0), (1, .int i1), (2, .int i2)] []
  refine x_iload_n dX2_timesOwn_2 rfl 2 rfl ?_
  refine x_aload_n dX2_timesOwn_3 rfl 0 rfl ?_
  obtain ⟨x1, ex1, H⟩ := H
  refine x_getI fl_X2_23 dX2_timesOwn_4 ex1 ?_
  refine x_icmp_gt (tgt := 44) dX2_timesOwn_7 (by decide) (fun c => ?_) (fun c => ?_)
  · replace H := H.1 c
    refine x_iconst (v := (0 : Int32)) dX2_timesOwn_44 (by decide) ?_
    refine x_istore_n dX2_timesOwn_45 rfl (by decide) (lv' := [(2, .int (0 : Int32)), (0, .ref r0), (1, .int i1)]) rfl ?_
    refine x_perm [1, 2, 0] rfl ?_
    exact H
  · replace H := H.2 c
    refine x_aload_n dX2_timesOwn_10 rfl 0 rfl ?_
    obtain ⟨q2, eq2, H⟩ := H
    refine x_getR fl_X2_20 dX2_timesOwn_11 eq2 ?_
    refine x_iload_n dX2_timesOwn_14 rfl 2 rfl ?_
    refine x_iload_n dX2_timesOwn_15 rfl 2 rfl ?_
    refine x_iconst (v := (2 : Int32)) dX2_timesOwn_16 (by decide) ?_
    refine x_irem dX2_timesOwn_17 (by decide) ?_
    refine x_if_ne (tgt := 30) dX2_timesOwn_18 (by decide) (fun c => ?_) (fun c => ?_)
    · replace H := H.1 c
      refine x_aload_n dX2_timesOwn_30 rfl 0 rfl ?_
      obtain ⟨q3, eq3, H⟩ := H
      refine x_getR fl_X2_9 dX2_timesOwn_31 eq3 ?_
      refine x_iload_n dX2_timesOwn_34 rfl 2 rfl ?_
      obtain ⟨x4, ex4, H⟩ := H
      refine x_laload dX2_timesOwn_35 ex4 ?_
      refine x_lneg dX2_timesOwn_36 ?_
      obtain ⟨h5, eh5, H⟩ := H
      refine x_lastore dX2_timesOwn_37 eh5 ?_
      refine x_iinc (q := 2) (v := (i2 + (1 : Int32))) dX2_timesOwn_38 rfl rfl (by decide) (lv' := [(2, .int (i2 + (1 : Int32))), (0, .ref r0), (1, .int i1)]) rfl ?_
      refine x_goto (tgt := 2) dX2_timesOwn_41 (by decide) ?_
      refine x_perm [1, 2, 0] rfl ?_
      exact H
    · replace H := H.2 c
      refine x_aload_n dX2_timesOwn_21 rfl 0 rfl ?_
      obtain ⟨q6, eq6, H⟩ := H
      refine x_getR fl_X2_9 dX2_timesOwn_22 eq6 ?_
      refine x_iload_n dX2_timesOwn_25 rfl 2 rfl ?_
      obtain ⟨x7, ex7, H⟩ := H
      refine x_laload dX2_timesOwn_26 ex7 ?_
      refine x_goto (tgt := 37) dX2_timesOwn_27 (by decide) ?_
      obtain ⟨h8, eh8, H⟩ := H
      refine x_lastore dX2_timesOwn_37 eh8 ?_
      refine x_iinc (q := 2) (v := (i2 + (1 : Int32))) dX2_timesOwn_38 rfl rfl (by decide) (lv' := [(2, .int (i2 + (1 : Int32))), (0, .ref r0), (1, .int i1)]) rfl ?_
      refine x_goto (tgt := 2) dX2_timesOwn_41 (by decide) ?_
      refine x_perm [1, 2, 0] rfl ?_
      exact H
set_option maxRecDepth 20000 in
theorem r_X2_timesOwn_46 {d : Nat} {P : Int32 → Hp → Prop} {h : Hp} {r0 : Nat} {i1 : Int32} {i2 : Int32} (H : ∃ x1, gI h 2 r0 3 = some x1 ∧ ((x1 ≤ i2 → ∃ x2, gI h 2 r0 3 = some x2 ∧ P x2 h) ∧
  (¬ x1 ≤ i2 → ∃ x3, gI h 2 r0 3 = some x3 ∧ L_X2_timesOwn_64 d P h r0 i1 i2 (x3 - i2) (1 : Int32)))) : L_X2_timesOwn_46 d P h r0 i1 i2 := by
  show X (KM (some .int) (fun r h' => ∃ x, r = some (.int x) ∧ P x h')) RX2 cX2_timesOwn 5 (d + 1) h 46 [(0, .ref r0), (1, .int i1), (2, .int i2)] []
  refine x_iload_n dX2_timesOwn_46 rfl 2 rfl ?_
  refine x_aload_n dX2_timesOwn_47 rfl 0 rfl ?_
  obtain ⟨x1, ex1, H⟩ := H
  refine x_getI fl_X2_23 dX2_timesOwn_48 ex1 ?_
  refine x_icmp_ge (tgt := 117) dX2_timesOwn_51 (by decide) (fun c => ?_) (fun c => ?_)
  · replace H := H.1 c
    refine x_aload_n dX2_timesOwn_117 rfl 0 rfl ?_
    obtain ⟨x2, ex2, H⟩ := H
    refine x_getI fl_X2_23 dX2_timesOwn_118 ex2 ?_
    exact x_iret dX2_timesOwn_121 ⟨_, rfl, H⟩
  · replace H := H.2 c
    refine x_aload_n dX2_timesOwn_54 rfl 0 rfl ?_
    obtain ⟨x3, ex3, H⟩ := H
    refine x_getI fl_X2_23 dX2_timesOwn_55 ex3 ?_
    refine x_iload_n dX2_timesOwn_58 rfl 2 rfl ?_
    refine x_isub dX2_timesOwn_59 ?_
    refine x_istore_n dX2_timesOwn_60 rfl (by decide) (lv' := [(3, .int (x3 - i2)), (0, .ref r0), (1, .int i1), (2, .int i2)]) rfl ?_
    refine x_iconst (v := (1 : Int32)) dX2_timesOwn_61 (by decide) ?_
    refine x_istore dX2_timesOwn_62 (by decide) (lv' := [(4, .int (1 : Int32)), (3, .int (x3 - i2)), (0, .ref r0), (1, .int i1), (2, .int i2)]) rfl ?_
    refine x_perm [2, 3, 4, 1, 0] rfl ?_
    exact H
set_option maxRecDepth 20000 in
theorem r_X2_timesOwn_64 {d : Nat} {P : Int32 → Hp → Prop} {h : Hp} {r0 : Nat} {i1 : Int32} {i2 : Int32} {i3 : Int32} {i4 : Int32} (H : ((i3 < i4 → ∃ q1, gR h 2 r0 2 = some q1 ∧ ∃ x2, lJ h q1 i3 = some x2 ∧ (((lcmp x2 (0 : Int64)) = 0 → L_X2_timesOwn_46 d P h r0 i1 (i2 + (1 : Int32))) ∧
    (¬ (lcmp x2 (0 : Int64)) = 0 → P i2 h))) ∧
  (¬ i3 < i4 → ∃ q3, gR h 2 r0 2 = some q3 ∧ ∃ x4, lJ h q3 i4 = some x4 ∧ ∃ q5, gR h 2 r0 2 = some q5 ∧ ∃ x6, lJ h q5 (i4 - (1 : Int32)) = some x6 ∧ ∃ h7, sJ h q3 i4 (x4 + (i1.toInt64 * x6)) = some h7 ∧ L_X2_timesOwn_64 d P h7 r0 i1 i2 i3 (i4 + (1 : Int32))))) : L_X2_timesOwn_64 d P h r0 i1 i2 i3 i4 := by
  show X (KM (some .int) (fun r h' => ∃ x, r = some (.int x) ∧ P x h')) RX2 cX2_timesOwn 5 (d + 1) h 64 [(0, .ref r0), (1, .int i1), (2, .int i2), (3, .int i3), (4, .int i4)] []
  refine x_iload dX2_timesOwn_64 4 rfl ?_
  refine x_iload_n dX2_timesOwn_66 rfl 3 rfl ?_
  refine x_icmp_gt (tgt := 98) dX2_timesOwn_67 (by decide) (fun c => ?_) (fun c => ?_)
  · replace H := H.1 c
    refine x_aload_n dX2_timesOwn_98 rfl 0 rfl ?_
    obtain ⟨q1, eq1, H⟩ := H
    refine x_getR fl_X2_20 dX2_timesOwn_99 eq1 ?_
    refine x_iload_n dX2_timesOwn_102 rfl 3 rfl ?_
    obtain ⟨x2, ex2, H⟩ := H
    refine x_laload dX2_timesOwn_103 ex2 ?_
    refine x_lconst (v := (0 : Int64)) dX2_timesOwn_104 (by decide) ?_
    refine x_lcmp dX2_timesOwn_105 ?_
    refine x_if_eq (tgt := 111) dX2_timesOwn_106 (by decide) (fun c => ?_) (fun c => ?_)
    · replace H := H.1 c
      refine x_iinc (q := 2) (v := (i2 + (1 : Int32))) dX2_timesOwn_111 rfl rfl (by decide) (lv' := [(2, .int (i2 + (1 : Int32))), (0, .ref r0), (1, .int i1), (3, .int i3), (4, .int i4)]) rfl ?_
      refine x_goto (tgt := 46) dX2_timesOwn_114 (by decide) ?_
      refine x_perm [1, 2, 0] rfl ?_
      exact H
    · replace H := H.2 c
      refine x_iload_n dX2_timesOwn_109 rfl 2 rfl ?_
      exact x_iret dX2_timesOwn_110 ⟨_, rfl, H⟩
  · replace H := H.2 c
    refine x_aload_n dX2_timesOwn_70 rfl 0 rfl ?_
    obtain ⟨q3, eq3, H⟩ := H
    refine x_getR fl_X2_20 dX2_timesOwn_71 eq3 ?_
    refine x_iload dX2_timesOwn_74 4 rfl ?_
    refine x_dup2 dX2_timesOwn_76 rfl rfl ?_
    obtain ⟨x4, ex4, H⟩ := H
    refine x_laload dX2_timesOwn_77 ex4 ?_
    refine x_iload_n dX2_timesOwn_78 rfl 1 rfl ?_
    refine x_i2l dX2_timesOwn_79 ?_
    refine x_aload_n dX2_timesOwn_80 rfl 0 rfl ?_
    obtain ⟨q5, eq5, H⟩ := H
    refine x_getR fl_X2_20 dX2_timesOwn_81 eq5 ?_
    refine x_iload dX2_timesOwn_84 4 rfl ?_
    refine x_iconst (v := (1 : Int32)) dX2_timesOwn_86 (by decide) ?_
    refine x_isub dX2_timesOwn_87 ?_
    obtain ⟨x6, ex6, H⟩ := H
    refine x_laload dX2_timesOwn_88 ex6 ?_
    refine x_lmul dX2_timesOwn_89 ?_
    refine x_ladd dX2_timesOwn_90 ?_
    obtain ⟨h7, eh7, H⟩ := H
    refine x_lastore dX2_timesOwn_91 eh7 ?_
    refine x_iinc (q := 4) (v := (i4 + (1 : Int32))) dX2_timesOwn_92 rfl rfl (by decide) (lv' := [(4, .int (i4 + (1 : Int32))), (0, .ref r0), (1, .int i1), (2, .int i2), (3, .int i3)]) rfl ?_
    refine x_goto (tgt := 64) dX2_timesOwn_95 (by decide) ?_
    refine x_perm [1, 2, 3, 4, 0] rfl ?_
    exact H
def L_X2_letsIn_7 (d : Nat) (P : Int32 → Hp → Prop) (h : Hp) (r0 : Nat) (i1 : Int32) (i2 : Int32) (i3 : Int32) : Prop := X (KM (some .boolean) (fun r h' => ∃ x, r = some (.int x) ∧ P x h')) RX2 cX2_letsIn 6 (d + 1) h 7 [(0, .ref r0), (1, .int i1), (2, .int i2), (3, .int i3)] []
set_option maxRecDepth 20000 in
theorem e_X2_letsIn {d : Nat} {P : Int32 → Hp → Prop} {h : Hp} {r0 : Nat} {i1 : Int32} {i2 : Int32} (ho : r0 < 47 ∧ ∃ fs, h r0 = .inr (2, fs)) (H : ∃ x1, gI h 2 r0 3 = some x1 ∧ L_X2_letsIn_7 d P h r0 i1 i2 (x1 + (1 : Int32))) : CI M_X2_letsIn (d + 1) [.ref r0, .int i1, .int i2] h P := by
  refine ⟨⟨r0, rfl, ho⟩, x_enter (by decide) (Nat.le_of_ble_eq_true rfl) ?_⟩
  show X (KM (some .boolean) (fun r h' => ∃ x, r = some (.int x) ∧ P x h')) RX2 cX2_letsIn 6 (d + 1) h 0 [(0, .ref r0), (1, .int i1), (2, .int i2)] []
  refine x_aload_n dX2_letsIn_0 rfl 0 rfl ?_
  obtain ⟨x1, ex1, H⟩ := H
  refine x_getI fl_X2_23 dX2_letsIn_1 ex1 ?_
  refine x_iconst (v := (1 : Int32)) dX2_letsIn_4 (by decide) ?_
  refine x_iadd dX2_letsIn_5 ?_
  refine x_istore_n dX2_letsIn_6 rfl (by decide) (lv' := [(3, .int (x1 + (1 : Int32))), (0, .ref r0), (1, .int i1), (2, .int i2)]) rfl ?_
  refine x_perm [1, 2, 3, 0] rfl ?_
  exact H
set_option maxRecDepth 20000 in
theorem r_X2_letsIn_7 {d : Nat} {P : Int32 → Hp → Prop} {h : Hp} {r0 : Nat} {i1 : Int32} {i2 : Int32} {i3 : Int32} (H : ((i3 < (2 : Int32) → P (1 : Int32) h) ∧
  (¬ i3 < (2 : Int32) → CJ M_X2_sumWith d [.ref r0, .int i1, .int i3] h (fun x2 h1 => (((lcmp x2 (0 : Int64)) < 0 → P (0 : Int32) h1) ∧
    (¬ (lcmp x2 (0 : Int64)) < 0 → ((i3 ≤ i2 → L_X2_letsIn_7 d P h1 r0 i1 i2 (i3 + (-1 : Int32))) ∧
      (¬ i3 ≤ i2 → (((lcmp x2 (0 : Int64)) = 0 → L_X2_letsIn_7 d P h1 r0 i1 i2 (i3 + (-1 : Int32))) ∧
        (¬ (lcmp x2 (0 : Int64)) = 0 → P (0 : Int32) h1)))))))))) : L_X2_letsIn_7 d P h r0 i1 i2 i3 := by
  show X (KM (some .boolean) (fun r h' => ∃ x, r = some (.int x) ∧ P x h')) RX2 cX2_letsIn 6 (d + 1) h 7 [(0, .ref r0), (1, .int i1), (2, .int i2), (3, .int i3)] []
  refine x_iload_n dX2_letsIn_7 rfl 3 rfl ?_
  refine x_iconst (v := (2 : Int32)) dX2_letsIn_8 (by decide) ?_
  refine x_icmp_lt (tgt := 47) dX2_letsIn_9 (by decide) (fun c => ?_) (fun c => ?_)
  · replace H := H.1 c
    refine x_iconst (v := (1 : Int32)) dX2_letsIn_47 (by decide) ?_
    exact x_zret dX2_letsIn_48 (by decide) ⟨_, rfl, H⟩
  · replace H := H.2 c
    refine x_aload_n dX2_letsIn_12 rfl 0 rfl ?_
    refine x_iload_n dX2_letsIn_13 rfl 1 rfl ?_
    refine x_iload_n dX2_letsIn_14 rfl 3 rfl ?_
    refine x_vJ vl_X2_57 dX2_letsIn_15 (As := [.int i1, .int i3]) rfl rfl (Nat.le_of_ble_eq_true rfl) (CJ.mono H (fun x2 h1 H => ?_))
    refine x_lstore dX2_letsIn_18 (by decide) (lv' := [(4, .long x2), (0, .ref r0), (1, .int i1), (2, .int i2), (3, .int i3)]) rfl ?_
    refine x_lload dX2_letsIn_20 0 rfl ?_
    refine x_lconst (v := (0 : Int64)) dX2_letsIn_22 (by decide) ?_
    refine x_lcmp dX2_letsIn_23 ?_
    refine x_if_lt (tgt := 39) dX2_letsIn_24 (by decide) (fun c => ?_) (fun c => ?_)
    · replace H := H.1 c
      refine x_iconst (v := (0 : Int32)) dX2_letsIn_39 (by decide) ?_
      exact x_zret dX2_letsIn_40 (by decide) ⟨_, rfl, H⟩
    · replace H := H.2 c
      refine x_iload_n dX2_letsIn_27 rfl 4 rfl ?_
      refine x_iload_n dX2_letsIn_28 rfl 3 rfl ?_
      refine x_icmp_le (tgt := 41) dX2_letsIn_29 (by decide) (fun c => ?_) (fun c => ?_)
      · replace H := H.1 c
        refine x_iinc (q := 4) (v := (i3 + (-1 : Int32))) dX2_letsIn_41 rfl rfl (by decide) (lv' := [(3, .int (i3 + (-1 : Int32))), (4, .long x2), (0, .ref r0), (1, .int i1), (2, .int i2)]) rfl ?_
        refine x_goto (tgt := 7) dX2_letsIn_44 (by decide) ?_
        refine x_perm [2, 3, 4, 0] rfl ?_
        exact H
      · replace H := H.2 c
        refine x_lload dX2_letsIn_32 0 rfl ?_
        refine x_lconst (v := (0 : Int64)) dX2_letsIn_34 (by decide) ?_
        refine x_lcmp dX2_letsIn_35 ?_
        refine x_if_eq (tgt := 41) dX2_letsIn_36 (by decide) (fun c => ?_) (fun c => ?_)
        · replace H := H.1 c
          refine x_iinc (q := 4) (v := (i3 + (-1 : Int32))) dX2_letsIn_41 rfl rfl (by decide) (lv' := [(3, .int (i3 + (-1 : Int32))), (4, .long x2), (0, .ref r0), (1, .int i1), (2, .int i2)]) rfl ?_
          refine x_goto (tgt := 7) dX2_letsIn_44 (by decide) ?_
          refine x_perm [2, 3, 4, 0] rfl ?_
          exact H
        · replace H := H.2 c
          refine x_iconst (v := (0 : Int32)) dX2_letsIn_39 (by decide) ?_
          exact x_zret dX2_letsIn_40 (by decide) ⟨_, rfl, H⟩
set_option maxRecDepth 20000 in
theorem e_X2_sumWith {d : Nat} {P : Int64 → Hp → Prop} {h : Hp} {r0 : Nat} {i1 : Int32} {i2 : Int32} (ho : r0 < 47 ∧ ∃ fs, h r0 = .inr (2, fs)) (H : ∃ q1, gR h 2 r0 0 = some q1 ∧ ∃ x2, lJ h q1 i2 = some x2 ∧ ∃ x3, gI h 2 r0 4 = some x3 ∧ ∃ q4, gR h 2 r0 0 = some q4 ∧ ∃ x5, lJ h q4 (i2 - (1 : Int32)) = some x5 ∧ ∃ q6, gR h 2 r0 1 = some q6 ∧ ∃ q7, lQ 4 h q6 (i2 - (2 : Int32)) = some q7 ∧ CJ M_X2_bothSides d [.ref r0, .ref q7, .int i1] h (fun x9 h8 => P ((x2 + (x3.toInt64 * x5)) - x9) h8)) : CJ M_X2_sumWith (d + 1) [.ref r0, .int i1, .int i2] h P := by
  refine ⟨⟨r0, rfl, ho⟩, x_enter (by decide) (Nat.le_of_ble_eq_true rfl) ?_⟩
  show X (KM (some .long) (fun r h' => ∃ x, r = some (.long x) ∧ P x h')) RX2 cX2_sumWith 3 (d + 1) h 0 [(0, .ref r0), (1, .int i1), (2, .int i2)] []
  refine x_aload_n dX2_sumWith_0 rfl 0 rfl ?_
  obtain ⟨q1, eq1, H⟩ := H
  refine x_getR fl_X2_9 dX2_sumWith_1 eq1 ?_
  refine x_iload_n dX2_sumWith_4 rfl 2 rfl ?_
  obtain ⟨x2, ex2, H⟩ := H
  refine x_laload dX2_sumWith_5 ex2 ?_
  refine x_aload_n dX2_sumWith_6 rfl 0 rfl ?_
  obtain ⟨x3, ex3, H⟩ := H
  refine x_getI fl_X2_27 dX2_sumWith_7 ex3 ?_
  refine x_i2l dX2_sumWith_10 ?_
  refine x_aload_n dX2_sumWith_11 rfl 0 rfl ?_
  obtain ⟨q4, eq4, H⟩ := H
  refine x_getR fl_X2_9 dX2_sumWith_12 eq4 ?_
  refine x_iload_n dX2_sumWith_15 rfl 2 rfl ?_
  refine x_iconst (v := (1 : Int32)) dX2_sumWith_16 (by decide) ?_
  refine x_isub dX2_sumWith_17 ?_
  obtain ⟨x5, ex5, H⟩ := H
  refine x_laload dX2_sumWith_18 ex5 ?_
  refine x_lmul dX2_sumWith_19 ?_
  refine x_ladd dX2_sumWith_20 ?_
  refine x_aload_n dX2_sumWith_21 rfl 0 rfl ?_
  refine x_aload_n dX2_sumWith_22 rfl 0 rfl ?_
  obtain ⟨q6, eq6, H⟩ := H
  refine x_getR fl_X2_17 dX2_sumWith_23 eq6 ?_
  refine x_iload_n dX2_sumWith_26 rfl 2 rfl ?_
  refine x_iconst (v := (2 : Int32)) dX2_sumWith_27 (by decide) ?_
  refine x_isub dX2_sumWith_28 ?_
  obtain ⟨q7, eq7, H⟩ := H
  refine x_aaload4 dX2_sumWith_29 eq7 ?_
  refine x_iload_n dX2_sumWith_30 rfl 1 rfl ?_
  refine x_vJ vl_X2_61 dX2_sumWith_31 (As := [.ref q7, .int i1]) rfl rfl (Nat.le_of_ble_eq_true rfl) (CJ.mono H (fun x9 h8 H => ?_))
  refine x_lsub dX2_sumWith_34 ?_
  exact x_lret dX2_sumWith_35 ⟨_, rfl, H⟩
def L_X2_bothSides_5 (d : Nat) (P : Int64 → Hp → Prop) (h : Hp) (r0 : Nat) (r1 : Nat) (i2 : Int32) (l3 : Int64) (i5 : Int32) : Prop := X (KM (some .long) (fun r h' => ∃ x, r = some (.long x) ∧ P x h')) RX2 cX2_bothSides 10 (d + 1) h 5 [(0, .ref r0), (1, .ref r1), (2, .int i2), (3, .long l3), (5, .int i5)] []
def L_X2_bothSides_35 (d : Nat) (P : Int64 → Hp → Prop) (h : Hp) (r0 : Nat) (r1 : Nat) (i2 : Int32) (l3 : Int64) (i5 : Int32) (i6 : Int32) (i7 : Int32) : Prop := X (KM (some .long) (fun r h' => ∃ x, r = some (.long x) ∧ P x h')) RX2 cX2_bothSides 10 (d + 1) h 35 [(0, .ref r0), (1, .ref r1), (2, .int i2), (3, .long l3), (5, .int i5), (6, .int i6), (7, .int i7)] []
set_option maxRecDepth 20000 in
theorem e_X2_bothSides {d : Nat} {P : Int64 → Hp → Prop} {h : Hp} {r0 : Nat} {r1 : Nat} {i2 : Int32} (ho : r0 < 47 ∧ ∃ fs, h r0 = .inr (2, fs)) (H : L_X2_bothSides_5 d P h r0 r1 i2 (0 : Int64) (1 : Int32)) : CJ M_X2_bothSides (d + 1) [.ref r0, .ref r1, .int i2] h P := by
  refine ⟨⟨r0, rfl, ho⟩, x_enter (by decide) (Nat.le_of_ble_eq_true rfl) ?_⟩
  show X (KM (some .long) (fun r h' => ∃ x, r = some (.long x) ∧ P x h')) RX2 cX2_bothSides 10 (d + 1) h 0 [(0, .ref r0), (1, .ref r1), (2, .int i2)] []
  refine x_lconst (v := (0 : Int64)) dX2_bothSides_0 (by decide) ?_
  refine x_lstore_n dX2_bothSides_1 rfl (by decide) (lv' := [(3, .long (0 : Int64)), (0, .ref r0), (1, .ref r1), (2, .int i2)]) rfl ?_
  refine x_iconst (v := (1 : Int32)) dX2_bothSides_2 (by decide) ?_
  refine x_istore dX2_bothSides_3 (by decide) (lv' := [(5, .int (1 : Int32)), (3, .long (0 : Int64)), (0, .ref r0), (1, .ref r1), (2, .int i2)]) rfl ?_
  refine x_perm [2, 3, 4, 1, 0] rfl ?_
  exact H
set_option maxRecDepth 20000 in
theorem r_X2_bothSides_5 {d : Nat} {P : Int64 → Hp → Prop} {h : Hp} {r0 : Nat} {r1 : Nat} {i2 : Int32} {l3 : Int64} {i5 : Int32} (H : ∃ x1, gI h 2 r0 3 = some x1 ∧ ((x1 ≤ i5 → CJ M_X2_trace d [.ref r0, .ref r1] h (fun x3 h2 => P (x3 + ((2 : Int64) * l3)) h2)) ∧
  (¬ x1 ≤ i5 → ((((iushr i2 i5) &&& (1 : Int32)) = 0 → L_X2_bothSides_35 d P h r0 r1 i2 l3 i5 i2 (0 : Int32)) ∧
    (¬ ((iushr i2 i5) &&& (1 : Int32)) = 0 → L_X2_bothSides_35 d P h r0 r1 i2 l3 i5 (i2 ^^^ (-1 : Int32)) (0 : Int32)))))) : L_X2_bothSides_5 d P h r0 r1 i2 l3 i5 := by
  show X (KM (some .long) (fun r h' => ∃ x, r = some (.long x) ∧ P x h')) RX2 cX2_bothSides 10 (d + 1) h 5 [(0, .ref r0), (1, .ref r1), (2, .int i2), (3, .long l3), (5, .int i5)] []
  refine x_iload dX2_bothSides_5 4 rfl ?_
  refine x_aload_n dX2_bothSides_7 rfl 0 rfl ?_
  obtain ⟨x1, ex1, H⟩ := H
  refine x_getI fl_X2_23 dX2_bothSides_8 ex1 ?_
  refine x_icmp_ge (tgt := 89) dX2_bothSides_11 (by decide) (fun c => ?_) (fun c => ?_)
  · replace H := H.1 c
    refine x_aload_n dX2_bothSides_89 rfl 0 rfl ?_
    refine x_aload_n dX2_bothSides_90 rfl 1 rfl ?_
    refine x_vJ vl_X2_41 dX2_bothSides_91 (As := [.ref r1]) rfl rfl (Nat.le_of_ble_eq_true rfl) (CJ.mono H (fun x3 h2 H => ?_))
    refine x_ldc2 (v := (2 : Int64)) (lw_gm (i := 336) (by decide +kernel) rfl) dX2_bothSides_94 ?_
    refine x_lload_n dX2_bothSides_97 rfl 3 rfl ?_
    refine x_lmul dX2_bothSides_98 ?_
    refine x_ladd dX2_bothSides_99 ?_
    exact x_lret dX2_bothSides_100 ⟨_, rfl, H⟩
  · replace H := H.2 c
    refine x_iload_n dX2_bothSides_14 rfl 2 rfl ?_
    refine x_iload dX2_bothSides_15 4 rfl ?_
    refine x_iushr dX2_bothSides_17 ?_
    refine x_iconst (v := (1 : Int32)) dX2_bothSides_18 (by decide) ?_
    refine x_iand dX2_bothSides_19 ?_
    refine x_if_eq (tgt := 29) dX2_bothSides_20 (by decide) (fun c => ?_) (fun c => ?_)
    · replace H := H.1 c
      refine x_iload_n dX2_bothSides_29 rfl 2 rfl ?_
      refine x_istore dX2_bothSides_30 (by decide) (lv' := [(6, .int i2), (0, .ref r0), (1, .ref r1), (2, .int i2), (3, .long l3), (5, .int i5)]) rfl ?_
      refine x_iconst (v := (0 : Int32)) dX2_bothSides_32 (by decide) ?_
      refine x_istore dX2_bothSides_33 (by decide) (lv' := [(7, .int (0 : Int32)), (6, .int i2), (0, .ref r0), (1, .ref r1), (2, .int i2), (3, .long l3), (5, .int i5)]) rfl ?_
      refine x_perm [2, 3, 4, 5, 6, 1, 0] rfl ?_
      exact H
    · replace H := H.2 c
      refine x_iload_n dX2_bothSides_23 rfl 2 rfl ?_
      refine x_iconst (v := (-1 : Int32)) dX2_bothSides_24 (by decide) ?_
      refine x_ixor dX2_bothSides_25 ?_
      refine x_goto (tgt := 30) dX2_bothSides_26 (by decide) ?_
      refine x_istore dX2_bothSides_30 (by decide) (lv' := [(6, .int (i2 ^^^ (-1 : Int32))), (0, .ref r0), (1, .ref r1), (2, .int i2), (3, .long l3), (5, .int i5)]) rfl ?_
      refine x_iconst (v := (0 : Int32)) dX2_bothSides_32 (by decide) ?_
      refine x_istore dX2_bothSides_33 (by decide) (lv' := [(7, .int (0 : Int32)), (6, .int (i2 ^^^ (-1 : Int32))), (0, .ref r0), (1, .ref r1), (2, .int i2), (3, .long l3), (5, .int i5)]) rfl ?_
      refine x_perm [2, 3, 4, 5, 6, 1, 0] rfl ?_
      exact H
set_option maxRecDepth 20000 in
theorem r_X2_bothSides_35 {d : Nat} {P : Int64 → Hp → Prop} {h : Hp} {r0 : Nat} {r1 : Nat} {i2 : Int32} {l3 : Int64} {i5 : Int32} {i6 : Int32} {i7 : Int32} (H : ((i5 ≤ i7 → L_X2_bothSides_5 d P h r0 r1 i2 l3 (i5 + (1 : Int32))) ∧
  (¬ i5 ≤ i7 → ∃ x1, gI h 2 r0 3 = some x1 ∧ ∃ x2, lJ h r1 ((x1 * i5) + i7) = some x2 ∧ ((((iushr i6 i7) &&& (1 : Int32)) = 0 → L_X2_bothSides_35 d P h r0 r1 i2 (l3 + x2) i5 i6 (i7 + (1 : Int32))) ∧
    (¬ ((iushr i6 i7) &&& (1 : Int32)) = 0 → L_X2_bothSides_35 d P h r0 r1 i2 (l3 + (-x2)) i5 i6 (i7 + (1 : Int32))))))) : L_X2_bothSides_35 d P h r0 r1 i2 l3 i5 i6 i7 := by
  show X (KM (some .long) (fun r h' => ∃ x, r = some (.long x) ∧ P x h')) RX2 cX2_bothSides 10 (d + 1) h 35 [(0, .ref r0), (1, .ref r1), (2, .int i2), (3, .long l3), (5, .int i5), (6, .int i6), (7, .int i7)] []
  refine x_iload dX2_bothSides_35 6 rfl ?_
  refine x_iload dX2_bothSides_37 4 rfl ?_
  refine x_icmp_ge (tgt := 83) dX2_bothSides_39 (by decide) (fun c => ?_) (fun c => ?_)
  · replace H := H.1 c
    refine x_iinc (q := 4) (v := (i5 + (1 : Int32))) dX2_bothSides_83 rfl rfl (by decide) (lv' := [(5, .int (i5 + (1 : Int32))), (0, .ref r0), (1, .ref r1), (2, .int i2), (3, .long l3), (6, .int i6), (7, .int i7)]) rfl ?_
    refine x_goto (tgt := 5) dX2_bothSides_86 (by decide) ?_
    refine x_perm [1, 2, 3, 4, 0] rfl ?_
    exact H
  · replace H := H.2 c
    refine x_aload_n dX2_bothSides_42 rfl 1 rfl ?_
    refine x_aload_n dX2_bothSides_43 rfl 0 rfl ?_
    obtain ⟨x1, ex1, H⟩ := H
    refine x_getI fl_X2_23 dX2_bothSides_44 ex1 ?_
    refine x_iload dX2_bothSides_47 4 rfl ?_
    refine x_imul dX2_bothSides_49 ?_
    refine x_iload dX2_bothSides_50 6 rfl ?_
    refine x_iadd dX2_bothSides_52 ?_
    obtain ⟨x2, ex2, H⟩ := H
    refine x_laload dX2_bothSides_53 ex2 ?_
    refine x_lstore dX2_bothSides_54 (by decide) (lv' := [(8, .long x2), (0, .ref r0), (1, .ref r1), (2, .int i2), (3, .long l3), (5, .int i5), (6, .int i6), (7, .int i7)]) rfl ?_
    refine x_lload_n dX2_bothSides_56 rfl 4 rfl ?_
    refine x_iload dX2_bothSides_57 6 rfl ?_
    refine x_iload dX2_bothSides_59 7 rfl ?_
    refine x_iushr dX2_bothSides_61 ?_
    refine x_iconst (v := (1 : Int32)) dX2_bothSides_62 (by decide) ?_
    refine x_iand dX2_bothSides_63 ?_
    refine x_if_eq (tgt := 73) dX2_bothSides_64 (by decide) (fun c => ?_) (fun c => ?_)
    · replace H := H.1 c
      refine x_lload dX2_bothSides_73 0 rfl ?_
      refine x_ladd dX2_bothSides_75 ?_
      refine x_lstore_n dX2_bothSides_76 rfl (by decide) (lv' := [(3, .long (l3 + x2)), (8, .long x2), (0, .ref r0), (1, .ref r1), (2, .int i2), (5, .int i5), (6, .int i6), (7, .int i7)]) rfl ?_
      refine x_iinc (q := 7) (v := (i7 + (1 : Int32))) dX2_bothSides_77 rfl rfl (by decide) (lv' := [(7, .int (i7 + (1 : Int32))), (3, .long (l3 + x2)), (8, .long x2), (0, .ref r0), (1, .ref r1), (2, .int i2), (5, .int i5), (6, .int i6)]) rfl ?_
      refine x_goto (tgt := 35) dX2_bothSides_80 (by decide) ?_
      refine x_perm [3, 4, 5, 1, 6, 7, 0] rfl ?_
      exact H
    · replace H := H.2 c
      refine x_lload dX2_bothSides_67 0 rfl ?_
      refine x_lneg dX2_bothSides_69 ?_
      refine x_goto (tgt := 75) dX2_bothSides_70 (by decide) ?_
      refine x_ladd dX2_bothSides_75 ?_
      refine x_lstore_n dX2_bothSides_76 rfl (by decide) (lv' := [(3, .long (l3 + (-x2))), (8, .long x2), (0, .ref r0), (1, .ref r1), (2, .int i2), (5, .int i5), (6, .int i6), (7, .int i7)]) rfl ?_
      refine x_iinc (q := 7) (v := (i7 + (1 : Int32))) dX2_bothSides_77 rfl rfl (by decide) (lv' := [(7, .int (i7 + (1 : Int32))), (3, .long (l3 + (-x2))), (8, .long x2), (0, .ref r0), (1, .ref r1), (2, .int i2), (5, .int i5), (6, .int i6)]) rfl ?_
      refine x_goto (tgt := 35) dX2_bothSides_80 (by decide) ?_
      refine x_perm [3, 4, 5, 1, 6, 7, 0] rfl ?_
      exact H
