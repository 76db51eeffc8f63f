def L_X0_least_11 (d : Nat) (P : Int32 → Hp → Prop) (h : Hp) (r0 : Nat) (r1 : Nat) (i2 : Int32) : Prop := X (KM (some .int) (fun r h' => ∃ x, r = some (.int x) ∧ P x h')) RX0 cX0_least 3 (d + 1) h 11 [(0, .ref r0), (1, .ref r1), (2, .int i2)] []
set_option maxRecDepth 20000 in
theorem e_X0_least {d : Nat} {P : Int32 → Hp → Prop} {h : Hp} {r0 : Nat} {r1 : Nat} (ho : r0 < 47 ∧ ∃ fs, h r0 = .inr (0, fs)) (H : CI M_X0_numberAsItIs d [.ref r0, .ref r1] h (fun x2 h1 => ∃ h3, sF h1 0 r0 2 (.int x2) = some h3 ∧ L_X0_least_11 d P h3 r0 r1 (0 : Int32))) : CI M_X0_least (d + 1) [.ref r0, .ref r1] h P := by
  refine ⟨⟨r0, rfl, ho⟩, x_enter (by decide) (Nat.le_of_ble_eq_true rfl) ?_⟩
  show X (KM (some .int) (fun r h' => ∃ x, r = some (.int x) ∧ P x h')) RX0 cX0_least 3 (d + 1) h 0 [(0, .ref r0), (1, .ref r1)] []
  refine x_aload_n dX0_least_0 rfl 0 rfl ?_
  refine x_aload_n dX0_least_1 rfl 0 rfl ?_
  refine x_aload_n dX0_least_2 rfl 1 rfl ?_
  refine x_vI vl_X0_25 dX0_least_3 (As := [.ref r1]) rfl rfl (Nat.le_of_ble_eq_true rfl) (CI.mono H (fun x2 h1 H => ?_))
  obtain ⟨h3, eh3, H⟩ := H
  refine x_putI fp_X0_18 rfl rfl dX0_least_6 eh3 ?_
  refine x_iconst (v := (0 : Int32)) dX0_least_9 (by decide) ?_
  refine x_istore_n dX0_least_10 rfl (by decide) (lv' := [(2, .int (0 : Int32)), (0, .ref r0), (1, .ref r1)]) rfl ?_
  refine x_perm [1, 2, 0] rfl ?_
  exact H
set_option maxRecDepth 20000 in
theorem r_X0_least_11 {d : Nat} {P : Int32 → Hp → Prop} {h : Hp} {r0 : Nat} {r1 : Nat} {i2 : Int32} (H : ∃ x1, gI h 3 r1 1 = some x1 ∧ ((x1 ≤ i2 → ∃ x2, gI h 0 r0 2 = some x2 ∧ P x2 h) ∧
  (¬ x1 ≤ i2 → ∃ q3, gR h 0 r0 0 = some q3 ∧ ∃ h4, sI h q3 (0 : Int32) i2 = some h4 ∧ ∃ x5, gI h4 3 r1 1 = some x5 ∧ CV M_X0_lower d [.ref r0, .ref r1, .int (x5 - (1 : Int32)), .int (ishl (1 : Int32) i2), .int (0 : Int32)] h4 (fun h6 => L_X0_least_11 d P h6 r0 r1 (i2 + (1 : Int32)))))) : L_X0_least_11 d P h r0 r1 i2 := by
  show X (KM (some .int) (fun r h' => ∃ x, r = some (.int x) ∧ P x h')) RX0 cX0_least 3 (d + 1) h 11 [(0, .ref r0), (1, .ref r1), (2, .int i2)] []
  refine x_iload_n dX0_least_11 rfl 2 rfl ?_
  refine x_aload_n dX0_least_12 rfl 1 rfl ?_
  obtain ⟨x1, ex1, H⟩ := H
  refine x_getI fl_X0_29 dX0_least_13 ex1 ?_
  refine x_icmp_ge (tgt := 47) dX0_least_16 (by decide) (fun c => ?_) (fun c => ?_)
  · replace H := H.1 c
    refine x_aload_n dX0_least_47 rfl 0 rfl ?_
    obtain ⟨x2, ex2, H⟩ := H
    refine x_getI fl_X0_18 dX0_least_48 ex2 ?_
    exact x_iret dX0_least_51 ⟨_, rfl, H⟩
  · replace H := H.2 c
    refine x_aload_n dX0_least_19 rfl 0 rfl ?_
    obtain ⟨q3, eq3, H⟩ := H
    refine x_getR fl_X0_9 dX0_least_20 eq3 ?_
    refine x_iconst (v := (0 : Int32)) dX0_least_23 (by decide) ?_
    refine x_iload_n dX0_least_24 rfl 2 rfl ?_
    obtain ⟨h4, eh4, H⟩ := H
    refine x_iastore dX0_least_25 eh4 ?_
    refine x_aload_n dX0_least_26 rfl 0 rfl ?_
    refine x_aload_n dX0_least_27 rfl 1 rfl ?_
    refine x_aload_n dX0_least_28 rfl 1 rfl ?_
    obtain ⟨x5, ex5, H⟩ := H
    refine x_getI fl_X0_29 dX0_least_29 ex5 ?_
    refine x_iconst (v := (1 : Int32)) dX0_least_32 (by decide) ?_
    refine x_isub dX0_least_33 ?_
    refine x_iconst (v := (1 : Int32)) dX0_least_34 (by decide) ?_
    refine x_iload_n dX0_least_35 rfl 2 rfl ?_
    refine x_ishl dX0_least_36 ?_
    refine x_iconst (v := (0 : Int32)) dX0_least_37 (by decide) ?_
    refine x_vV vl_X0_34 dX0_least_38 (As := [.ref r1, .int (x5 - (1 : Int32)), .int (ishl (1 : Int32) i2), .int (0 : Int32)]) rfl rfl (Nat.le_of_ble_eq_true rfl) (CV.mono H (fun h6 H => ?_))
    refine x_iinc (q := 2) (v := (i2 + (1 : Int32))) dX0_least_41 rfl rfl (by decide) (lv' := [(2, .int (i2 + (1 : Int32))), (0, .ref r0), (1, .ref r1)]) rfl ?_
    refine x_goto (tgt := 11) dX0_least_44 (by decide) ?_
    refine x_perm [1, 2, 0] rfl ?_
    exact H
def L_X0_keeping_13 (d : Nat) (P : Int32 → Hp → Prop) (h : Hp) (r0 : Nat) (r1 : Nat) (i2 : Int32) : Prop := X (KM (some .int) (fun r h' => ∃ x, r = some (.int x) ∧ P x h')) RX0 cX0_keeping 3 (d + 1) h 13 [(0, .ref r0), (1, .ref r1), (2, .int i2)] []
set_option maxRecDepth 20000 in
theorem e_X0_keeping {d : Nat} {P : Int32 → Hp → Prop} {h : Hp} {r0 : Nat} {r1 : Nat} (ho : r0 < 47 ∧ ∃ fs, h r0 = .inr (0, fs)) (H : CI M_X0_numberAsItIs d [.ref r0, .ref r1] h (fun x2 h1 => ∃ h3, sF h1 0 r0 3 (.int (0 : Int32)) = some h3 ∧ L_X0_keeping_13 d P h3 r0 r1 (0 : Int32))) : CI M_X0_keeping (d + 1) [.ref r0, .ref r1] h P := by
  refine ⟨⟨r0, rfl, ho⟩, x_enter (by decide) (Nat.le_of_ble_eq_true rfl) ?_⟩
  show X (KM (some .int) (fun r h' => ∃ x, r = some (.int x) ∧ P x h')) RX0 cX0_keeping 3 (d + 1) h 0 [(0, .ref r0), (1, .ref r1)] []
  refine x_aload_n dX0_keeping_0 rfl 0 rfl ?_
  refine x_aload_n dX0_keeping_1 rfl 1 rfl ?_
  refine x_vI vl_X0_25 dX0_keeping_2 (As := [.ref r1]) rfl rfl (Nat.le_of_ble_eq_true rfl) (CI.mono H (fun x2 h1 H => ?_))
  refine x_pop dX0_keeping_5 rfl ?_
  refine x_aload_n dX0_keeping_6 rfl 0 rfl ?_
  refine x_iconst (v := (0 : Int32)) dX0_keeping_7 (by decide) ?_
  obtain ⟨h3, eh3, H⟩ := H
  refine x_putI fp_X0_22 rfl rfl dX0_keeping_8 eh3 ?_
  refine x_iconst (v := (0 : Int32)) dX0_keeping_11 (by decide) ?_
  refine x_istore_n dX0_keeping_12 rfl (by decide) (lv' := [(2, .int (0 : Int32)), (0, .ref r0), (1, .ref r1)]) rfl ?_
  refine x_perm [1, 2, 0] rfl ?_
  exact H
set_option maxRecDepth 20000 in
theorem r_X0_keeping_13 {d : Nat} {P : Int32 → Hp → Prop} {h : Hp} {r0 : Nat} {r1 : Nat} {i2 : Int32} (H : ∃ x1, gI h 3 r1 1 = some x1 ∧ ((x1 ≤ i2 → ∃ x2, gI h 3 r1 1 = some x2 ∧ ((¬ x2 = 0 → ∃ x3, gI h 0 r0 3 = some x3 ∧ P x3 h) ∧
    (x2 = 0 → P (1 : Int32) h))) ∧
  (¬ x1 ≤ i2 → ∃ q4, gR h 0 r0 0 = some q4 ∧ ∃ h5, sI h q4 (0 : Int32) i2 = some h5 ∧ ∃ x6, gI h5 3 r1 1 = some x6 ∧ CV M_X0_keep d [.ref r0, .ref r1, .int (x6 - (1 : Int32)), .int (ishl (1 : Int32) i2)] h5 (fun h7 => L_X0_keeping_13 d P h7 r0 r1 (i2 + (1 : Int32)))))) : L_X0_keeping_13 d P h r0 r1 i2 := by
  show X (KM (some .int) (fun r h' => ∃ x, r = some (.int x) ∧ P x h')) RX0 cX0_keeping 3 (d + 1) h 13 [(0, .ref r0), (1, .ref r1), (2, .int i2)] []
  refine x_iload_n dX0_keeping_13 rfl 2 rfl ?_
  refine x_aload_n dX0_keeping_14 rfl 1 rfl ?_
  obtain ⟨x1, ex1, H⟩ := H
  refine x_getI fl_X0_29 dX0_keeping_15 ex1 ?_
  refine x_icmp_ge (tgt := 48) dX0_keeping_18 (by decide) (fun c => ?_) (fun c => ?_)
  · replace H := H.1 c
    refine x_aload_n dX0_keeping_48 rfl 1 rfl ?_
    obtain ⟨x2, ex2, H⟩ := H
    refine x_getI fl_X0_29 dX0_keeping_49 ex2 ?_
    refine x_if_ne (tgt := 59) dX0_keeping_52 (by decide) (fun c => ?_) (fun c => ?_)
    · replace H := H.1 c
      refine x_aload_n dX0_keeping_59 rfl 0 rfl ?_
      obtain ⟨x3, ex3, H⟩ := H
      refine x_getI fl_X0_22 dX0_keeping_60 ex3 ?_
      exact x_iret dX0_keeping_63 ⟨_, rfl, H⟩
    · replace H := H.2 c
      refine x_iconst (v := (1 : Int32)) dX0_keeping_55 (by decide) ?_
      refine x_goto (tgt := 63) dX0_keeping_56 (by decide) ?_
      exact x_iret dX0_keeping_63 ⟨_, rfl, H⟩
  · replace H := H.2 c
    refine x_aload_n dX0_keeping_21 rfl 0 rfl ?_
    obtain ⟨q4, eq4, H⟩ := H
    refine x_getR fl_X0_9 dX0_keeping_22 eq4 ?_
    refine x_iconst (v := (0 : Int32)) dX0_keeping_25 (by decide) ?_
    refine x_iload_n dX0_keeping_26 rfl 2 rfl ?_
    obtain ⟨h5, eh5, H⟩ := H
    refine x_iastore dX0_keeping_27 eh5 ?_
    refine x_aload_n dX0_keeping_28 rfl 0 rfl ?_
    refine x_aload_n dX0_keeping_29 rfl 1 rfl ?_
    refine x_aload_n dX0_keeping_30 rfl 1 rfl ?_
    obtain ⟨x6, ex6, H⟩ := H
    refine x_getI fl_X0_29 dX0_keeping_31 ex6 ?_
    refine x_iconst (v := (1 : Int32)) dX0_keeping_34 (by decide) ?_
    refine x_isub dX0_keeping_35 ?_
    refine x_iconst (v := (1 : Int32)) dX0_keeping_36 (by decide) ?_
    refine x_iload_n dX0_keeping_37 rfl 2 rfl ?_
    refine x_ishl dX0_keeping_38 ?_
    refine x_vV vl_X0_38 dX0_keeping_39 (As := [.ref r1, .int (x6 - (1 : Int32)), .int (ishl (1 : Int32) i2)]) rfl rfl (Nat.le_of_ble_eq_true rfl) (CV.mono H (fun h7 H => ?_))
    refine x_iinc (q := 2) (v := (i2 + (1 : Int32))) dX0_keeping_42 rfl rfl (by decide) (lv' := [(2, .int (i2 + (1 : Int32))), (0, .ref r0), (1, .ref r1)]) rfl ?_
    refine x_goto (tgt := 13) dX0_keeping_45 (by decide) ?_
    refine x_perm [1, 2, 0] rfl ?_
    exact H
def L_X0_numberAsItIs_4 (d : Nat) (P : Int32 → Hp → Prop) (h : Hp) (r0 : Nat) (r1 : Nat) (i2 : Int32) (i3 : Int32) : Prop := X (KM (some .int) (fun r h' => ∃ x, r = some (.int x) ∧ P x h')) RX0 cX0_numberAsItIs 4 (d + 1) h 4 [(0, .ref r0), (1, .ref r1), (2, .int i2), (3, .int i3)] []
def L_X0_numberAsItIs_27 (d : Nat) (P : Int32 → Hp → Prop) (h : Hp) (r0 : Nat) (r1 : Nat) (i2 : Int32) (i3 : Int32) : Prop := X (KM (some .int) (fun r h' => ∃ x, r = some (.int x) ∧ P x h')) RX0 cX0_numberAsItIs 4 (d + 1) h 27 [(0, .ref r0), (1, .ref r1), (2, .int i2), (3, .int i3)] []
set_option maxRecDepth 20000 in
theorem e_X0_numberAsItIs {d : Nat} {P : Int32 → Hp → Prop} {h : Hp} {r0 : Nat} {r1 : Nat} (ho : r0 < 47 ∧ ∃ fs, h r0 = .inr (0, fs)) (H : L_X0_numberAsItIs_4 d P h r0 r1 (0 : Int32) (0 : Int32)) : CI M_X0_numberAsItIs (d + 1) [.ref r0, .ref r1] h P := by
  refine ⟨⟨r0, rfl, ho⟩, x_enter (by decide) (Nat.le_of_ble_eq_true rfl) ?_⟩
  show X (KM (some .int) (fun r h' => ∃ x, r = some (.int x) ∧ P x h')) RX0 cX0_numberAsItIs 4 (d + 1) h 0 [(0, .ref r0), (1, .ref r1)] []
  refine x_iconst (v := (0 : Int32)) dX0_numberAsItIs_0 (by decide) ?_
  refine x_istore_n dX0_numberAsItIs_1 rfl (by decide) (lv' := [(2, .int (0 : Int32)), (0, .ref r0), (1, .ref r1)]) rfl ?_
  refine x_iconst (v := (0 : Int32)) dX0_numberAsItIs_2 (by decide) ?_
  refine x_istore_n dX0_numberAsItIs_3 rfl (by decide) (lv' := [(3, .int (0 : Int32)), (2, .int (0 : Int32)), (0, .ref r0), (1, .ref r1)]) rfl ?_
  refine x_perm [2, 3, 1, 0] rfl ?_
  exact H
set_option maxRecDepth 20000 in
theorem r_X0_numberAsItIs_4 {d : Nat} {P : Int32 → Hp → Prop} {h : Hp} {r0 : Nat} {r1 : Nat} {i2 : Int32} {i3 : Int32} (H : ∃ x1, gI h 3 r1 1 = some x1 ∧ ((x1 ≤ i3 → L_X0_numberAsItIs_27 d P h r0 r1 i2 (1 : Int32)) ∧
  (¬ x1 ≤ i3 → ∃ q2, gR h 0 r0 0 = some q2 ∧ ∃ h3, sI h q2 i3 i3 = some h3 ∧ L_X0_numberAsItIs_4 d P h3 r0 r1 i2 (i3 + (1 : Int32))))) : L_X0_numberAsItIs_4 d P h r0 r1 i2 i3 := by
  show X (KM (some .int) (fun r h' => ∃ x, r = some (.int x) ∧ P x h')) RX0 cX0_numberAsItIs 4 (d + 1) h 4 [(0, .ref r0), (1, .ref r1), (2, .int i2), (3, .int i3)] []
  refine x_iload_n dX0_numberAsItIs_4 rfl 3 rfl ?_
  refine x_aload_n dX0_numberAsItIs_5 rfl 1 rfl ?_
  obtain ⟨x1, ex1, H⟩ := H
  refine x_getI fl_X0_29 dX0_numberAsItIs_6 ex1 ?_
  refine x_icmp_ge (tgt := 25) dX0_numberAsItIs_9 (by decide) (fun c => ?_) (fun c => ?_)
  · replace H := H.1 c
    refine x_iconst (v := (1 : Int32)) dX0_numberAsItIs_25 (by decide) ?_
    refine x_istore_n dX0_numberAsItIs_26 rfl (by decide) (lv' := [(3, .int (1 : Int32)), (0, .ref r0), (1, .ref r1), (2, .int i2)]) rfl ?_
    refine x_perm [1, 2, 3, 0] rfl ?_
    exact H
  · replace H := H.2 c
    refine x_aload_n dX0_numberAsItIs_12 rfl 0 rfl ?_
    obtain ⟨q2, eq2, H⟩ := H
    refine x_getR fl_X0_9 dX0_numberAsItIs_13 eq2 ?_
    refine x_iload_n dX0_numberAsItIs_16 rfl 3 rfl ?_
    refine x_iload_n dX0_numberAsItIs_17 rfl 3 rfl ?_
    obtain ⟨h3, eh3, H⟩ := H
    refine x_iastore dX0_numberAsItIs_18 eh3 ?_
    refine x_iinc (q := 3) (v := (i3 + (1 : Int32))) dX0_numberAsItIs_19 rfl rfl (by decide) (lv' := [(3, .int (i3 + (1 : Int32))), (0, .ref r0), (1, .ref r1), (2, .int i2)]) rfl ?_
    refine x_goto (tgt := 4) dX0_numberAsItIs_22 (by decide) ?_
    refine x_perm [1, 2, 3, 0] rfl ?_
    exact H
set_option maxRecDepth 20000 in
theorem r_X0_numberAsItIs_27 {d : Nat} {P : Int32 → Hp → Prop} {h : Hp} {r0 : Nat} {r1 : Nat} {i2 : Int32} {i3 : Int32} (H : ∃ x1, gI h 3 r1 1 = some x1 ∧ ((x1 ≤ i3 → P i2 h) ∧
  (¬ x1 ≤ i3 → ∃ q2, gR h 0 r0 1 = some q2 ∧ CI M_X0_bitsOf d [.ref r0, .ref r1, .int i3] h (fun x4 h3 => ∃ h5, sI h3 q2 i3 x4 = some h5 ∧ ∃ q6, gR h5 0 r0 1 = some q6 ∧ ∃ x7, lI h5 q6 i3 = some x7 ∧ L_X0_numberAsItIs_27 d P h5 r0 r1 (i2 ||| x7) (i3 + (1 : Int32)))))) : L_X0_numberAsItIs_27 d P h r0 r1 i2 i3 := by
  show X (KM (some .int) (fun r h' => ∃ x, r = some (.int x) ∧ P x h')) RX0 cX0_numberAsItIs 4 (d + 1) h 27 [(0, .ref r0), (1, .ref r1), (2, .int i2), (3, .int i3)] []
  refine x_iload_n dX0_numberAsItIs_27 rfl 3 rfl ?_
  refine x_aload_n dX0_numberAsItIs_28 rfl 1 rfl ?_
  obtain ⟨x1, ex1, H⟩ := H
  refine x_getI fl_X0_29 dX0_numberAsItIs_29 ex1 ?_
  refine x_icmp_ge (tgt := 62) dX0_numberAsItIs_32 (by decide) (fun c => ?_) (fun c => ?_)
  · replace H := H.1 c
    refine x_iload_n dX0_numberAsItIs_62 rfl 2 rfl ?_
    exact x_iret dX0_numberAsItIs_63 ⟨_, rfl, H⟩
  · replace H := H.2 c
    refine x_aload_n dX0_numberAsItIs_35 rfl 0 rfl ?_
    obtain ⟨q2, eq2, H⟩ := H
    refine x_getR fl_X0_15 dX0_numberAsItIs_36 eq2 ?_
    refine x_iload_n dX0_numberAsItIs_39 rfl 3 rfl ?_
    refine x_aload_n dX0_numberAsItIs_40 rfl 0 rfl ?_
    refine x_aload_n dX0_numberAsItIs_41 rfl 1 rfl ?_
    refine x_iload_n dX0_numberAsItIs_42 rfl 3 rfl ?_
    refine x_vI vl_X0_42 dX0_numberAsItIs_43 (As := [.ref r1, .int i3]) rfl rfl (Nat.le_of_ble_eq_true rfl) (CI.mono H (fun x4 h3 H => ?_))
    obtain ⟨h5, eh5, H⟩ := H
    refine x_iastore dX0_numberAsItIs_46 eh5 ?_
    refine x_iload_n dX0_numberAsItIs_47 rfl 2 rfl ?_
    refine x_aload_n dX0_numberAsItIs_48 rfl 0 rfl ?_
    obtain ⟨q6, eq6, H⟩ := H
    refine x_getR fl_X0_15 dX0_numberAsItIs_49 eq6 ?_
    refine x_iload_n dX0_numberAsItIs_52 rfl 3 rfl ?_
    obtain ⟨x7, ex7, H⟩ := H
    refine x_iaload dX0_numberAsItIs_53 ex7 ?_
    refine x_ior dX0_numberAsItIs_54 ?_
    refine x_istore_n dX0_numberAsItIs_55 rfl (by decide) (lv' := [(2, .int (i2 ||| x7)), (0, .ref r0), (1, .ref r1), (3, .int i3)]) rfl ?_
    refine x_iinc (q := 3) (v := (i3 + (1 : Int32))) dX0_numberAsItIs_56 rfl rfl (by decide) (lv' := [(3, .int (i3 + (1 : Int32))), (2, .int (i2 ||| x7)), (0, .ref r0), (1, .ref r1)]) rfl ?_
    refine x_goto (tgt := 27) dX0_numberAsItIs_59 (by decide) ?_
    refine x_perm [2, 3, 1, 0] rfl ?_
    exact H
def L_X0_lower_22 (d : Nat) (P : Hp → Prop) (h : Hp) (r0 : Nat) (r1 : Nat) (i2 : Int32) (i3 : Int32) (i4 : Int32) (i5 : Int32) : Prop := X (KM (none) (fun r h' => r = none ∧ P h')) RX0 cX0_lower 7 (d + 1) h 22 [(0, .ref r0), (1, .ref r1), (2, .int i2), (3, .int i3), (4, .int i4), (5, .int i5)] []
set_option maxRecDepth 20000 in
theorem e_X0_lower {d : Nat} {P : Hp → Prop} {h : Hp} {r0 : Nat} {r1 : Nat} {i2 : Int32} {i3 : Int32} {i4 : Int32} (ho : r0 < 47 ∧ ∃ fs, h r0 = .inr (0, fs)) (H : (((1 : Int32) ≤ i2 → L_X0_lower_22 d P h r0 r1 i2 i3 i4 (0 : Int32)) ∧
  (¬ (1 : Int32) ≤ i2 → ∃ x1, gI h 0 r0 2 = some x1 ∧ ∃ h2, sF h 0 r0 2 (.int (if i4 < x1 then i4 else x1)) = some h2 ∧ P h2))) : CV M_X0_lower (d + 1) [.ref r0, .ref r1, .int i2, .int i3, .int i4] h P := by
  refine ⟨⟨r0, rfl, ho⟩, x_enter (by decide) (Nat.le_of_ble_eq_true rfl) ?_⟩
  show X (KM (none) (fun r h' => r = none ∧ P h')) RX0 cX0_lower 7 (d + 1) h 0 [(0, .ref r0), (1, .ref r1), (2, .int i2), (3, .int i3), (4, .int i4)] []
  refine x_iload_n dX0_lower_0 rfl 2 rfl ?_
  refine x_iconst (v := (1 : Int32)) dX0_lower_1 (by decide) ?_
  refine x_icmp_ge (tgt := 19) dX0_lower_2 (by decide) (fun c => ?_) (fun c => ?_)
  · replace H := H.1 c
    refine x_iconst (v := (0 : Int32)) dX0_lower_19 (by decide) ?_
    refine x_istore dX0_lower_20 (by decide) (lv' := [(5, .int (0 : Int32)), (0, .ref r0), (1, .ref r1), (2, .int i2), (3, .int i3), (4, .int i4)]) rfl ?_
    refine x_perm [1, 2, 3, 4, 5, 0] rfl ?_
    exact H
  · replace H := H.2 c
    refine x_aload_n dX0_lower_5 rfl 0 rfl ?_
    refine x_aload_n dX0_lower_6 rfl 0 rfl ?_
    obtain ⟨x1, ex1, H⟩ := H
    refine x_getI fl_X0_18 dX0_lower_7 ex1 ?_
    refine x_iload dX0_lower_10 4 rfl ?_
    refine x_mmin (lw_gm (i := 380) (by decide +kernel) rfl) (lw_gm (i := 310) (by decide +kernel) rfl) (lw_gm (i := 40) (by decide +kernel) rfl) (lw_gm (i := 311) (by decide +kernel) rfl) dX0_lower_12 (Nat.le_of_ble_eq_true rfl) ?_
    obtain ⟨h2, eh2, H⟩ := H
    refine x_putI fp_X0_18 rfl rfl dX0_lower_15 eh2 ?_
    exact x_vret dX0_lower_18 ⟨rfl, H⟩
set_option maxRecDepth 20000 in
theorem r_X0_lower_22 {d : Nat} {P : Hp → Prop} {h : Hp} {r0 : Nat} {r1 : Nat} {i2 : Int32} {i3 : Int32} {i4 : Int32} {i5 : Int32} (H : ∃ x1, gI h 3 r1 1 = some x1 ∧ ((x1 ≤ i5 → P h) ∧
  (¬ x1 ≤ i5 → ((¬ ((iushr i3 i5) &&& (1 : Int32)) = 0 → L_X0_lower_22 d P h r0 r1 i2 i3 i4 (i5 + (1 : Int32))) ∧
    (((iushr i3 i5) &&& (1 : Int32)) = 0 → ∃ q2, gR h 0 r0 0 = some q2 ∧ ∃ h3, sI h q2 i2 i5 = some h3 ∧ CI M_X0_bitsOf d [.ref r0, .ref r1, .int i2] h3 (fun x5 h4 => ∃ x6, gI h4 0 r0 2 = some x6 ∧ ((x6 ≤ (i4 ||| x5) → L_X0_lower_22 d P h4 r0 r1 i2 i3 i4 (i5 + (1 : Int32))) ∧
      (¬ x6 ≤ (i4 ||| x5) → CV M_X0_lower d [.ref r0, .ref r1, .int (i2 - (1 : Int32)), .int (i3 ||| (ishl (1 : Int32) i5)), .int (i4 ||| x5)] h4 (fun h7 => L_X0_lower_22 d P h7 r0 r1 i2 i3 i4 (i5 + (1 : Int32))))))))))) : L_X0_lower_22 d P h r0 r1 i2 i3 i4 i5 := by
  show X (KM (none) (fun r h' => r = none ∧ P h')) RX0 cX0_lower 7 (d + 1) h 22 [(0, .ref r0), (1, .ref r1), (2, .int i2), (3, .int i3), (4, .int i4), (5, .int i5)] []
  refine x_iload dX0_lower_22 5 rfl ?_
  refine x_aload_n dX0_lower_24 rfl 1 rfl ?_
  obtain ⟨x1, ex1, H⟩ := H
  refine x_getI fl_X0_29 dX0_lower_25 ex1 ?_
  refine x_icmp_ge (tgt := 90) dX0_lower_28 (by decide) (fun c => ?_) (fun c => ?_)
  · replace H := H.1 c
    exact x_vret dX0_lower_90 ⟨rfl, H⟩
  · replace H := H.2 c
    refine x_iload_n dX0_lower_31 rfl 3 rfl ?_
    refine x_iload dX0_lower_32 5 rfl ?_
    refine x_iushr dX0_lower_34 ?_
    refine x_iconst (v := (1 : Int32)) dX0_lower_35 (by decide) ?_
    refine x_iand dX0_lower_36 ?_
    refine x_if_ne (tgt := 84) dX0_lower_37 (by decide) (fun c => ?_) (fun c => ?_)
    · replace H := H.1 c
      refine x_iinc (q := 5) (v := (i5 + (1 : Int32))) dX0_lower_84 rfl rfl (by decide) (lv' := [(5, .int (i5 + (1 : Int32))), (0, .ref r0), (1, .ref r1), (2, .int i2), (3, .int i3), (4, .int i4)]) rfl ?_
      refine x_goto (tgt := 22) dX0_lower_87 (by decide) ?_
      refine x_perm [1, 2, 3, 4, 5, 0] rfl ?_
      exact H
    · replace H := H.2 c
      refine x_aload_n dX0_lower_40 rfl 0 rfl ?_
      obtain ⟨q2, eq2, H⟩ := H
      refine x_getR fl_X0_9 dX0_lower_41 eq2 ?_
      refine x_iload_n dX0_lower_44 rfl 2 rfl ?_
      refine x_iload dX0_lower_45 5 rfl ?_
      obtain ⟨h3, eh3, H⟩ := H
      refine x_iastore dX0_lower_47 eh3 ?_
      refine x_iload dX0_lower_48 4 rfl ?_
      refine x_aload_n dX0_lower_50 rfl 0 rfl ?_
      refine x_aload_n dX0_lower_51 rfl 1 rfl ?_
      refine x_iload_n dX0_lower_52 rfl 2 rfl ?_
      refine x_vI vl_X0_42 dX0_lower_53 (As := [.ref r1, .int i2]) rfl rfl (Nat.le_of_ble_eq_true rfl) (CI.mono H (fun x5 h4 H => ?_))
      refine x_ior dX0_lower_56 ?_
      refine x_istore dX0_lower_57 (by decide) (lv' := [(6, .int (i4 ||| x5)), (0, .ref r0), (1, .ref r1), (2, .int i2), (3, .int i3), (4, .int i4), (5, .int i5)]) rfl ?_
      refine x_iload dX0_lower_59 0 rfl ?_
      refine x_aload_n dX0_lower_61 rfl 1 rfl ?_
      obtain ⟨x6, ex6, H⟩ := H
      refine x_getI fl_X0_18 dX0_lower_62 ex6 ?_
      refine x_icmp_ge (tgt := 84) dX0_lower_65 (by decide) (fun c => ?_) (fun c => ?_)
      · replace H := H.1 c
        refine x_iinc (q := 6) (v := (i5 + (1 : Int32))) dX0_lower_84 rfl rfl (by decide) (lv' := [(5, .int (i5 + (1 : Int32))), (6, .int (i4 ||| x5)), (0, .ref r0), (1, .ref r1), (2, .int i2), (3, .int i3), (4, .int i4)]) rfl ?_
        refine x_goto (tgt := 22) dX0_lower_87 (by decide) ?_
        refine x_perm [2, 3, 4, 5, 6, 0] rfl ?_
        exact H
      · replace H := H.2 c
        refine x_aload_n dX0_lower_68 rfl 1 rfl ?_
        refine x_aload_n dX0_lower_69 rfl 2 rfl ?_
        refine x_iload_n dX0_lower_70 rfl 3 rfl ?_
        refine x_iconst (v := (1 : Int32)) dX0_lower_71 (by decide) ?_
        refine x_isub dX0_lower_72 ?_
        refine x_iload_n dX0_lower_73 rfl 4 rfl ?_
        refine x_iconst (v := (1 : Int32)) dX0_lower_74 (by decide) ?_
        refine x_iload dX0_lower_75 6 rfl ?_
        refine x_ishl dX0_lower_77 ?_
        refine x_ior dX0_lower_78 ?_
        refine x_iload dX0_lower_79 0 rfl ?_
        refine x_vV vl_X0_34 dX0_lower_81 (As := [.ref r1, .int (i2 - (1 : Int32)), .int (i3 ||| (ishl (1 : Int32) i5)), .int (i4 ||| x5)]) rfl rfl (Nat.le_of_ble_eq_true rfl) (CV.mono H (fun h7 H => ?_))
        refine x_iinc (q := 6) (v := (i5 + (1 : Int32))) dX0_lower_84 rfl rfl (by decide) (lv' := [(5, .int (i5 + (1 : Int32))), (6, .int (i4 ||| x5)), (0, .ref r0), (1, .ref r1), (2, .int i2), (3, .int i3), (4, .int i4)]) rfl ?_
        refine x_goto (tgt := 22) dX0_lower_87 (by decide) ?_
        refine x_perm [2, 3, 4, 5, 6, 0] rfl ?_
        exact H
def L_X0_keep_19 (d : Nat) (P : Hp → Prop) (h : Hp) (r0 : Nat) (r1 : Nat) (i2 : Int32) (i3 : Int32) (i4 : Int32) : Prop := X (KM (none) (fun r h' => r = none ∧ P h')) RX0 cX0_keep 5 (d + 1) h 19 [(0, .ref r0), (1, .ref r1), (2, .int i2), (3, .int i3), (4, .int i4)] []
set_option maxRecDepth 20000 in
theorem e_X0_keep {d : Nat} {P : Hp → Prop} {h : Hp} {r0 : Nat} {r1 : Nat} {i2 : Int32} {i3 : Int32} (ho : r0 < 47 ∧ ∃ fs, h r0 = .inr (0, fs)) (H : (((1 : Int32) ≤ i2 → L_X0_keep_19 d P h r0 r1 i2 i3 (0 : Int32)) ∧
  (¬ (1 : Int32) ≤ i2 → ∃ x1, gI h 0 r0 3 = some x1 ∧ ∃ h2, sF h 0 r0 3 (.int (x1 + (1 : Int32))) = some h2 ∧ P h2))) : CV M_X0_keep (d + 1) [.ref r0, .ref r1, .int i2, .int i3] h P := by
  refine ⟨⟨r0, rfl, ho⟩, x_enter (by decide) (Nat.le_of_ble_eq_true rfl) ?_⟩
  show X (KM (none) (fun r h' => r = none ∧ P h')) RX0 cX0_keep 5 (d + 1) h 0 [(0, .ref r0), (1, .ref r1), (2, .int i2), (3, .int i3)] []
  refine x_iload_n dX0_keep_0 rfl 2 rfl ?_
  refine x_iconst (v := (1 : Int32)) dX0_keep_1 (by decide) ?_
  refine x_icmp_ge (tgt := 16) dX0_keep_2 (by decide) (fun c => ?_) (fun c => ?_)
  · replace H := H.1 c
    refine x_iconst (v := (0 : Int32)) dX0_keep_16 (by decide) ?_
    refine x_istore dX0_keep_17 (by decide) (lv' := [(4, .int (0 : Int32)), (0, .ref r0), (1, .ref r1), (2, .int i2), (3, .int i3)]) rfl ?_
    refine x_perm [1, 2, 3, 4, 0] rfl ?_
    exact H
  · replace H := H.2 c
    refine x_aload_n dX0_keep_5 rfl 0 rfl ?_
    refine x_dup dX0_keep_6 rfl ?_
    obtain ⟨x1, ex1, H⟩ := H
    refine x_getI fl_X0_22 dX0_keep_7 ex1 ?_
    refine x_iconst (v := (1 : Int32)) dX0_keep_10 (by decide) ?_
    refine x_iadd dX0_keep_11 ?_
    obtain ⟨h2, eh2, H⟩ := H
    refine x_putI fp_X0_22 rfl rfl dX0_keep_12 eh2 ?_
    exact x_vret dX0_keep_15 ⟨rfl, H⟩
set_option maxRecDepth 20000 in
theorem r_X0_keep_19 {d : Nat} {P : Hp → Prop} {h : Hp} {r0 : Nat} {r1 : Nat} {i2 : Int32} {i3 : Int32} {i4 : Int32} (H : ∃ x1, gI h 3 r1 1 = some x1 ∧ ((x1 ≤ i4 → P h) ∧
  (¬ x1 ≤ i4 → ((¬ ((iushr i3 i4) &&& (1 : Int32)) = 0 → L_X0_keep_19 d P h r0 r1 i2 i3 (i4 + (1 : Int32))) ∧
    (((iushr i3 i4) &&& (1 : Int32)) = 0 → ∃ q2, gR h 0 r0 0 = some q2 ∧ ∃ h3, sI h q2 i2 i4 = some h3 ∧ CI M_X0_bitsOf d [.ref r0, .ref r1, .int i2] h3 (fun x5 h4 => ∃ q6, gR h4 0 r0 1 = some q6 ∧ ∃ x7, lI h4 q6 i2 = some x7 ∧ ((¬ x5 = x7 → L_X0_keep_19 d P h4 r0 r1 i2 i3 (i4 + (1 : Int32))) ∧
      (x5 = x7 → CV M_X0_keep d [.ref r0, .ref r1, .int (i2 - (1 : Int32)), .int (i3 ||| (ishl (1 : Int32) i4))] h4 (fun h8 => L_X0_keep_19 d P h8 r0 r1 i2 i3 (i4 + (1 : Int32))))))))))) : L_X0_keep_19 d P h r0 r1 i2 i3 i4 := by
  show X (KM (none) (fun r h' => r = none ∧ P h')) RX0 cX0_keep 5 (d + 1) h 19 [(0, .ref r0), (1, .ref r1), (2, .int i2), (3, .int i3), (4, .int i4)] []
  refine x_iload dX0_keep_19 4 rfl ?_
  refine x_aload_n dX0_keep_21 rfl 1 rfl ?_
  obtain ⟨x1, ex1, H⟩ := H
  refine x_getI fl_X0_29 dX0_keep_22 ex1 ?_
  refine x_icmp_ge (tgt := 80) dX0_keep_25 (by decide) (fun c => ?_) (fun c => ?_)
  · replace H := H.1 c
    exact x_vret dX0_keep_80 ⟨rfl, H⟩
  · replace H := H.2 c
    refine x_iload_n dX0_keep_28 rfl 3 rfl ?_
    refine x_iload dX0_keep_29 4 rfl ?_
    refine x_iushr dX0_keep_31 ?_
    refine x_iconst (v := (1 : Int32)) dX0_keep_32 (by decide) ?_
    refine x_iand dX0_keep_33 ?_
    refine x_if_ne (tgt := 74) dX0_keep_34 (by decide) (fun c => ?_) (fun c => ?_)
    · replace H := H.1 c
      refine x_iinc (q := 4) (v := (i4 + (1 : Int32))) dX0_keep_74 rfl rfl (by decide) (lv' := [(4, .int (i4 + (1 : Int32))), (0, .ref r0), (1, .ref r1), (2, .int i2), (3, .int i3)]) rfl ?_
      refine x_goto (tgt := 19) dX0_keep_77 (by decide) ?_
      refine x_perm [1, 2, 3, 4, 0] rfl ?_
      exact H
    · replace H := H.2 c
      refine x_aload_n dX0_keep_37 rfl 0 rfl ?_
      obtain ⟨q2, eq2, H⟩ := H
      refine x_getR fl_X0_9 dX0_keep_38 eq2 ?_
      refine x_iload_n dX0_keep_41 rfl 2 rfl ?_
      refine x_iload dX0_keep_42 4 rfl ?_
      obtain ⟨h3, eh3, H⟩ := H
      refine x_iastore dX0_keep_44 eh3 ?_
      refine x_aload_n dX0_keep_45 rfl 0 rfl ?_
      refine x_aload_n dX0_keep_46 rfl 1 rfl ?_
      refine x_iload_n dX0_keep_47 rfl 2 rfl ?_
      refine x_vI vl_X0_42 dX0_keep_48 (As := [.ref r1, .int i2]) rfl rfl (Nat.le_of_ble_eq_true rfl) (CI.mono H (fun x5 h4 H => ?_))
      refine x_aload_n dX0_keep_51 rfl 0 rfl ?_
      obtain ⟨q6, eq6, H⟩ := H
      refine x_getR fl_X0_15 dX0_keep_52 eq6 ?_
      refine x_iload_n dX0_keep_55 rfl 2 rfl ?_
      obtain ⟨x7, ex7, H⟩ := H
      refine x_iaload dX0_keep_56 ex7 ?_
      refine x_icmp_ne (tgt := 74) dX0_keep_57 (by decide) (fun c => ?_) (fun c => ?_)
      · replace H := H.1 c
        refine x_iinc (q := 4) (v := (i4 + (1 : Int32))) dX0_keep_74 rfl rfl (by decide) (lv' := [(4, .int (i4 + (1 : Int32))), (0, .ref r0), (1, .ref r1), (2, .int i2), (3, .int i3)]) rfl ?_
        refine x_goto (tgt := 19) dX0_keep_77 (by decide) ?_
        refine x_perm [1, 2, 3, 4, 0] rfl ?_
        exact H
      · replace H := H.2 c
        refine x_aload_n dX0_keep_60 rfl 0 rfl ?_
        refine x_aload_n dX0_keep_61 rfl 1 rfl ?_
        refine x_iload_n dX0_keep_62 rfl 2 rfl ?_
        refine x_iconst (v := (1 : Int32)) dX0_keep_63 (by decide) ?_
        refine x_isub dX0_keep_64 ?_
        refine x_iload_n dX0_keep_65 rfl 3 rfl ?_
        refine x_iconst (v := (1 : Int32)) dX0_keep_66 (by decide) ?_
        refine x_iload dX0_keep_67 4 rfl ?_
        refine x_ishl dX0_keep_69 ?_
        refine x_ior dX0_keep_70 ?_
        refine x_vV vl_X0_38 dX0_keep_71 (As := [.ref r1, .int (i2 - (1 : Int32)), .int (i3 ||| (ishl (1 : Int32) i4))]) rfl rfl (Nat.le_of_ble_eq_true rfl) (CV.mono H (fun h8 H => ?_))
        refine x_iinc (q := 4) (v := (i4 + (1 : Int32))) dX0_keep_74 rfl rfl (by decide) (lv' := [(4, .int (i4 + (1 : Int32))), (0, .ref r0), (1, .ref r1), (2, .int i2), (3, .int i3)]) rfl ?_
        refine x_goto (tgt := 19) dX0_keep_77 (by decide) ?_
        refine x_perm [1, 2, 3, 4, 0] rfl ?_
        exact H
def L_X0_bitsOf_59 (d : Nat) (P : Int32 → Hp → Prop) (h : Hp) (r0 : Nat) (r1 : Nat) (i2 : Int32) (i5 : Int32) (i6 : Int32) (i7 : Int32) : Prop := X (KM (some .int) (fun r h' => ∃ x, r = some (.int x) ∧ P x h')) RX0 cX0_bitsOf 8 (d + 1) h 59 [(0, .ref r0), (1, .ref r1), (2, .int i2), (5, .int i5), (6, .int i6), (7, .int i7)] []
set_option maxRecDepth 20000 in
theorem e_X0_bitsOf {d : Nat} {P : Int32 → Hp → Prop} {h : Hp} {r0 : Nat} {r1 : Nat} {i2 : Int32} (ho : r0 < 47 ∧ ∃ fs, h r0 = .inr (0, fs)) (H : ∃ q1, gR h 3 r1 0 = some q1 ∧ ∃ q2, gR h 0 r0 0 = some q2 ∧ ∃ x3, lI h q2 (0 : Int32) = some x3 ∧ ∃ x4, lI h q1 x3 = some x4 ∧ ∃ q5, gR h 3 r1 0 = some q5 ∧ ∃ q6, gR h 0 r0 0 = some q6 ∧ ∃ x7, lI h q6 i2 = some x7 ∧ ∃ x8, lI h q5 x7 = some x8 ∧ ∃ q9, gR h 0 r0 0 = some q9 ∧ ∃ x10, lI h q9 i2 = some x10 ∧ ((((iushr x4 x10) &&& (1 : Int32)) = 0 → L_X0_bitsOf_59 d P h r0 r1 i2 (x8 ^^^ x4) (0 : Int32) (i2 + (1 : Int32))) ∧
  (¬ ((iushr x4 x10) &&& (1 : Int32)) = 0 → L_X0_bitsOf_59 d P h r0 r1 i2 ((x8 ^^^ x4) ^^^ (-1 : Int32)) (0 : Int32) (i2 + (1 : Int32))))) : CI M_X0_bitsOf (d + 1) [.ref r0, .ref r1, .int i2] h P := by
  refine ⟨⟨r0, rfl, ho⟩, x_enter (by decide) (Nat.le_of_ble_eq_true rfl) ?_⟩
  show X (KM (some .int) (fun r h' => ∃ x, r = some (.int x) ∧ P x h')) RX0 cX0_bitsOf 8 (d + 1) h 0 [(0, .ref r0), (1, .ref r1), (2, .int i2)] []
  refine x_aload_n dX0_bitsOf_0 rfl 1 rfl ?_
  obtain ⟨q1, eq1, H⟩ := H
  refine x_getR fl_X0_52 dX0_bitsOf_1 eq1 ?_
  refine x_aload_n dX0_bitsOf_4 rfl 0 rfl ?_
  obtain ⟨q2, eq2, H⟩ := H
  refine x_getR fl_X0_9 dX0_bitsOf_5 eq2 ?_
  refine x_iconst (v := (0 : Int32)) dX0_bitsOf_8 (by decide) ?_
  obtain ⟨x3, ex3, H⟩ := H
  refine x_iaload dX0_bitsOf_9 ex3 ?_
  obtain ⟨x4, ex4, H⟩ := H
  refine x_iaload dX0_bitsOf_10 ex4 ?_
  refine x_istore_n dX0_bitsOf_11 rfl (by decide) (lv' := [(3, .int x4), (0, .ref r0), (1, .ref r1), (2, .int i2)]) rfl ?_
  refine x_aload_n dX0_bitsOf_12 rfl 2 rfl ?_
  obtain ⟨q5, eq5, H⟩ := H
  refine x_getR fl_X0_52 dX0_bitsOf_13 eq5 ?_
  refine x_aload_n dX0_bitsOf_16 rfl 1 rfl ?_
  obtain ⟨q6, eq6, H⟩ := H
  refine x_getR fl_X0_9 dX0_bitsOf_17 eq6 ?_
  refine x_iload_n dX0_bitsOf_20 rfl 3 rfl ?_
  obtain ⟨x7, ex7, H⟩ := H
  refine x_iaload dX0_bitsOf_21 ex7 ?_
  obtain ⟨x8, ex8, H⟩ := H
  refine x_iaload dX0_bitsOf_22 ex8 ?_
  refine x_iload_n dX0_bitsOf_23 rfl 0 rfl ?_
  refine x_ixor dX0_bitsOf_24 ?_
  refine x_istore dX0_bitsOf_25 (by decide) (lv' := [(4, .int (x8 ^^^ x4)), (3, .int x4), (0, .ref r0), (1, .ref r1), (2, .int i2)]) rfl ?_
  refine x_iload_n dX0_bitsOf_27 rfl 1 rfl ?_
  refine x_aload_n dX0_bitsOf_28 rfl 2 rfl ?_
  obtain ⟨q9, eq9, H⟩ := H
  refine x_getR fl_X0_9 dX0_bitsOf_29 eq9 ?_
  refine x_iload_n dX0_bitsOf_32 rfl 4 rfl ?_
  obtain ⟨x10, ex10, H⟩ := H
  refine x_iaload dX0_bitsOf_33 ex10 ?_
  refine x_iushr dX0_bitsOf_34 ?_
  refine x_iconst (v := (1 : Int32)) dX0_bitsOf_35 (by decide) ?_
  refine x_iand dX0_bitsOf_36 ?_
  refine x_if_eq (tgt := 47) dX0_bitsOf_37 (by decide) (fun c => ?_) (fun c => ?_)
  · replace H := H.1 c
    refine x_iload dX0_bitsOf_47 0 rfl ?_
    refine x_istore dX0_bitsOf_49 (by decide) (lv' := [(5, .int (x8 ^^^ x4)), (4, .int (x8 ^^^ x4)), (3, .int x4), (0, .ref r0), (1, .ref r1), (2, .int i2)]) rfl ?_
    refine x_iconst (v := (0 : Int32)) dX0_bitsOf_51 (by decide) ?_
    refine x_istore dX0_bitsOf_52 (by decide) (lv' := [(6, .int (0 : Int32)), (5, .int (x8 ^^^ x4)), (4, .int (x8 ^^^ x4)), (3, .int x4), (0, .ref r0), (1, .ref r1), (2, .int i2)]) rfl ?_
    refine x_iload_n dX0_bitsOf_54 rfl 6 rfl ?_
    refine x_iconst (v := (1 : Int32)) dX0_bitsOf_55 (by decide) ?_
    refine x_iadd dX0_bitsOf_56 ?_
    refine x_istore dX0_bitsOf_57 (by decide) (lv' := [(7, .int (i2 + (1 : Int32))), (6, .int (0 : Int32)), (5, .int (x8 ^^^ x4)), (4, .int (x8 ^^^ x4)), (3, .int x4), (0, .ref r0), (1, .ref r1), (2, .int i2)]) rfl ?_
    refine x_perm [5, 6, 7, 2, 1, 0] rfl ?_
    exact H
  · replace H := H.2 c
    refine x_iload dX0_bitsOf_40 0 rfl ?_
    refine x_iconst (v := (-1 : Int32)) dX0_bitsOf_42 (by decide) ?_
    refine x_ixor dX0_bitsOf_43 ?_
    refine x_goto (tgt := 49) dX0_bitsOf_44 (by decide) ?_
    refine x_istore dX0_bitsOf_49 (by decide) (lv' := [(5, .int ((x8 ^^^ x4) ^^^ (-1 : Int32))), (4, .int (x8 ^^^ x4)), (3, .int x4), (0, .ref r0), (1, .ref r1), (2, .int i2)]) rfl ?_
    refine x_iconst (v := (0 : Int32)) dX0_bitsOf_51 (by decide) ?_
    refine x_istore dX0_bitsOf_52 (by decide) (lv' := [(6, .int (0 : Int32)), (5, .int ((x8 ^^^ x4) ^^^ (-1 : Int32))), (4, .int (x8 ^^^ x4)), (3, .int x4), (0, .ref r0), (1, .ref r1), (2, .int i2)]) rfl ?_
    refine x_iload_n dX0_bitsOf_54 rfl 6 rfl ?_
    refine x_iconst (v := (1 : Int32)) dX0_bitsOf_55 (by decide) ?_
    refine x_iadd dX0_bitsOf_56 ?_
    refine x_istore dX0_bitsOf_57 (by decide) (lv' := [(7, .int (i2 + (1 : Int32))), (6, .int (0 : Int32)), (5, .int ((x8 ^^^ x4) ^^^ (-1 : Int32))), (4, .int (x8 ^^^ x4)), (3, .int x4), (0, .ref r0), (1, .ref r1), (2, .int i2)]) rfl ?_
    refine x_perm [5, 6, 7, 2, 1, 0] rfl ?_
    exact H
set_option maxRecDepth 20000 in
theorem r_X0_bitsOf_59 {d : Nat} {P : Int32 → Hp → Prop} {h : Hp} {r0 : Nat} {r1 : Nat} {i2 : Int32} {i5 : Int32} {i6 : Int32} {i7 : Int32} (H : ∃ x1, gI h 3 r1 1 = some x1 ∧ ((x1 ≤ i7 → P i6 h) ∧
  (¬ x1 ≤ i7 → ∃ q2, gR h 0 r0 0 = some q2 ∧ ∃ x3, lI h q2 i7 = some x3 ∧ CI M_X3_bitOfPair d [.int i2, .int i7] h (fun x5 h4 => L_X0_bitsOf_59 d P h4 r0 r1 i2 i5 (i6 ||| (ishl ((iushr i5 x3) &&& (1 : Int32)) x5)) (i7 + (1 : Int32)))))) : L_X0_bitsOf_59 d P h r0 r1 i2 i5 i6 i7 := by
  show X (KM (some .int) (fun r h' => ∃ x, r = some (.int x) ∧ P x h')) RX0 cX0_bitsOf 8 (d + 1) h 59 [(0, .ref r0), (1, .ref r1), (2, .int i2), (5, .int i5), (6, .int i6), (7, .int i7)] []
  refine x_iload dX0_bitsOf_59 5 rfl ?_
  refine x_aload_n dX0_bitsOf_61 rfl 1 rfl ?_
  obtain ⟨x1, ex1, H⟩ := H
  refine x_getI fl_X0_29 dX0_bitsOf_62 ex1 ?_
  refine x_icmp_ge (tgt := 98) dX0_bitsOf_65 (by decide) (fun c => ?_) (fun c => ?_)
  · replace H := H.1 c
    refine x_iload dX0_bitsOf_98 4 rfl ?_
    exact x_iret dX0_bitsOf_100 ⟨_, rfl, H⟩
  · replace H := H.2 c
    refine x_iload dX0_bitsOf_68 4 rfl ?_
    refine x_iload dX0_bitsOf_70 3 rfl ?_
    refine x_aload_n dX0_bitsOf_72 rfl 0 rfl ?_
    obtain ⟨q2, eq2, H⟩ := H
    refine x_getR fl_X0_9 dX0_bitsOf_73 eq2 ?_
    refine x_iload dX0_bitsOf_76 5 rfl ?_
    obtain ⟨x3, ex3, H⟩ := H
    refine x_iaload dX0_bitsOf_78 ex3 ?_
    refine x_iushr dX0_bitsOf_79 ?_
    refine x_iconst (v := (1 : Int32)) dX0_bitsOf_80 (by decide) ?_
    refine x_iand dX0_bitsOf_81 ?_
    refine x_iload_n dX0_bitsOf_82 rfl 2 rfl ?_
    refine x_iload dX0_bitsOf_83 5 rfl ?_
    refine x_sI sl_X0_55 dX0_bitsOf_85 (As := [.int i2, .int i7]) rfl rfl (Nat.le_of_ble_eq_true rfl) (CI.mono H (fun x5 h4 H => ?_))
    refine x_ishl dX0_bitsOf_88 ?_
    refine x_ior dX0_bitsOf_89 ?_
    refine x_istore dX0_bitsOf_90 (by decide) (lv' := [(6, .int (i6 ||| (ishl ((iushr i5 x3) &&& (1 : Int32)) x5))), (0, .ref r0), (1, .ref r1), (2, .int i2), (5, .int i5), (7, .int i7)]) rfl ?_
    refine x_iinc (q := 5) (v := (i7 + (1 : Int32))) dX0_bitsOf_92 rfl rfl (by decide) (lv' := [(7, .int (i7 + (1 : Int32))), (6, .int (i6 ||| (ishl ((iushr i5 x3) &&& (1 : Int32)) x5))), (0, .ref r0), (1, .ref r1), (2, .int i2), (5, .int i5)]) rfl ?_
    refine x_goto (tgt := 59) dX0_bitsOf_95 (by decide) ?_
    refine x_perm [2, 3, 4, 5, 1, 0] rfl ?_
    exact H
