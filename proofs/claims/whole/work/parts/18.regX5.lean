set_option maxRecDepth 20000 in
theorem e_X5_in {d : Nat} {P : Int32 → Hp → Prop} {h : Hp} {i0 : Int32} {i1 : Int32} {i2 : Int32} (H : ((i0 < i1 → P (0 : Int32) h) ∧
  (¬ i0 < i1 → ((i2 < i0 → P (0 : Int32) h) ∧
    (¬ i2 < i0 → P (1 : Int32) h))))) : CI M_X5_in (d + 1) [.int i0, .int i1, .int i2] h P := by
  refine ⟨trivial, x_enter (by decide) (Nat.le_of_ble_eq_true rfl) ?_⟩
  show X (KM (some .boolean) (fun r h' => ∃ x, r = some (.int x) ∧ P x h')) RX5 cX5_in 3 (d + 1) h 0 [(0, .int i0), (1, .int i1), (2, .int i2)] []
  refine x_iload_n dX5_in_0 rfl 0 rfl ?_
  refine x_iload_n dX5_in_1 rfl 1 rfl ?_
  refine x_icmp_lt (tgt := 14) dX5_in_2 (by decide) (fun c => ?_) (fun c => ?_)
  · replace H := H.1 c
    refine x_iconst (v := (0 : Int32)) dX5_in_14 (by decide) ?_
    exact x_zret dX5_in_15 (by decide) ⟨_, rfl, H⟩
  · replace H := H.2 c
    refine x_iload_n dX5_in_5 rfl 0 rfl ?_
    refine x_iload_n dX5_in_6 rfl 2 rfl ?_
    refine x_icmp_gt (tgt := 14) dX5_in_7 (by decide) (fun c => ?_) (fun c => ?_)
    · replace H := H.1 c
      refine x_iconst (v := (0 : Int32)) dX5_in_14 (by decide) ?_
      exact x_zret dX5_in_15 (by decide) ⟨_, rfl, H⟩
    · replace H := H.2 c
      refine x_iconst (v := (1 : Int32)) dX5_in_10 (by decide) ?_
      refine x_goto (tgt := 15) dX5_in_11 (by decide) ?_
      exact x_zret dX5_in_15 (by decide) ⟨_, rfl, H⟩
set_option maxRecDepth 20000 in
theorem e_X5_isLine {d : Nat} {P : Int32 → Hp → Prop} {h : Hp} {r0 : Nat} {i1 : Int32} (ho : r0 < 47 ∧ ∃ fs, h r0 = .inr (5, fs)) (H : ∃ x1, gI h 5 r0 0 = some x1 ∧ CI M_X5_in d [.int i1, .int (0 : Int32), .int (x1 - (1 : Int32))] h (fun x3 h2 => (x3 = 0 ∨ x3 = 1) ∧ P x3 h2)) : CI M_X5_isLine (d + 1) [.ref r0, .int i1] h P := by
  refine ⟨⟨r0, rfl, ho⟩, x_enter (by decide) (Nat.le_of_ble_eq_true rfl) ?_⟩
  show X (KM (some .boolean) (fun r h' => ∃ x, r = some (.int x) ∧ P x h')) RX5 cX5_isLine 2 (d + 1) h 0 [(0, .ref r0), (1, .int i1)] []
  refine x_iload_n dX5_isLine_0 rfl 1 rfl ?_
  refine x_iconst (v := (0 : Int32)) dX5_isLine_1 (by decide) ?_
  refine x_aload_n dX5_isLine_2 rfl 0 rfl ?_
  obtain ⟨x1, ex1, H⟩ := H
  refine x_getI fl_X5_58 dX5_isLine_3 ex1 ?_
  refine x_iconst (v := (1 : Int32)) dX5_isLine_6 (by decide) ?_
  refine x_isub dX5_isLine_7 ?_
  refine x_sI sl_X5_61 dX5_isLine_8 (As := [.int i1, .int (0 : Int32), .int (x1 - (1 : Int32))]) rfl rfl (Nat.le_of_ble_eq_true rfl) (CI.mono H (fun x3 h2 H => ?_))
  obtain ⟨hz, H⟩ := H
  exact x_zret dX5_isLine_11 hz ⟨_, rfl, H⟩
set_option maxRecDepth 20000 in
theorem e_X5_set {d : Nat} {P : Hp → Prop} {h : Hp} {r0 : Nat} {i1 : Int32} {i2 : Int32} {i3 : Int32} (ho : r0 < 47 ∧ ∃ fs, h r0 = .inr (5, fs)) (H : ∃ q1, gR h 5 r0 1 = some q1 ∧ ∃ h2, sI h q1 (((10 : Int32) * i1) + i2) i3 = some h2 ∧ ∃ q3, gR h2 5 r0 1 = some q3 ∧ ∃ h4, sI h2 q3 (((10 : Int32) * i2) + i1) i3 = some h4 ∧ P h4) : CV M_X5_set (d + 1) [.ref r0, .int i1, .int i2, .int i3] h P := by
  refine ⟨⟨r0, rfl, ho⟩, x_enter (by decide) (Nat.le_of_ble_eq_true rfl) ?_⟩
  show X (KM (none) (fun r h' => r = none ∧ P h')) RX5 cX5_set 4 (d + 1) h 0 [(0, .ref r0), (1, .int i1), (2, .int i2), (3, .int i3)] []
  refine x_aload_n dX5_set_0 rfl 0 rfl ?_
  obtain ⟨q1, eq1, H⟩ := H
  refine x_getR fl_X5_7 dX5_set_1 eq1 ?_
  refine x_bipush (v := (10 : Int32)) dX5_set_4 (by decide) ?_
  refine x_iload_n dX5_set_6 rfl 1 rfl ?_
  refine x_imul dX5_set_7 ?_
  refine x_iload_n dX5_set_8 rfl 2 rfl ?_
  refine x_iadd dX5_set_9 ?_
  refine x_iload_n dX5_set_10 rfl 3 rfl ?_
  obtain ⟨h2, eh2, H⟩ := H
  refine x_iastore dX5_set_11 eh2 ?_
  refine x_aload_n dX5_set_12 rfl 0 rfl ?_
  obtain ⟨q3, eq3, H⟩ := H
  refine x_getR fl_X5_7 dX5_set_13 eq3 ?_
  refine x_bipush (v := (10 : Int32)) dX5_set_16 (by decide) ?_
  refine x_iload_n dX5_set_18 rfl 2 rfl ?_
  refine x_imul dX5_set_19 ?_
  refine x_iload_n dX5_set_20 rfl 1 rfl ?_
  refine x_iadd dX5_set_21 ?_
  refine x_iload_n dX5_set_22 rfl 3 rfl ?_
  obtain ⟨h4, eh4, H⟩ := H
  refine x_iastore dX5_set_23 eh4 ?_
  exact x_vret dX5_set_24 ⟨rfl, H⟩
def L_X5_lines_25 (d : Nat) (P : Int32 → Hp → Prop) (h : Hp) (r0 : Nat) (i2 : Int32) (i3 : Int32) : Prop := X (KM (some .int) (fun r h' => ∃ x, r = some (.int x) ∧ P x h')) RX5 cX5_lines 5 (d + 1) h 25 [(0, .ref r0), (2, .int i2), (3, .int i3)] []
def L_X5_lines_34 (d : Nat) (P : Int32 → Hp → Prop) (h : Hp) (r0 : Nat) (i2 : Int32) (i3 : Int32) (i4 : Int32) : Prop := X (KM (some .int) (fun r h' => ∃ x, r = some (.int x) ∧ P x h')) RX5 cX5_lines 5 (d + 1) h 34 [(0, .ref r0), (2, .int i2), (3, .int i3), (4, .int i4)] []
set_option maxRecDepth 20000 in
theorem e_X5_lines {d : Nat} {P : Int32 → Hp → Prop} {h : Hp} {r0 : Nat} {i1 : Int32} (ho : r0 < 47 ∧ ∃ fs, h r0 = .inr (5, fs)) (H : CI M_X5_in d [.int i1, .int (0 : Int32), .int (10 : Int32)] h (fun x2 h1 => ((¬ x2 = 0 → ∃ x3, gI h1 5 r0 0 = some x3 ∧ ∃ h4, sF h1 5 r0 0 (.int i1) = some h4 ∧ L_X5_lines_25 d P h4 r0 x3 (0 : Int32)) ∧
  (x2 = 0 → P (-2 : Int32) h1)))) : CI M_X5_lines (d + 1) [.ref r0, .int i1] h P := by
  refine ⟨⟨r0, rfl, ho⟩, x_enter (by decide) (Nat.le_of_ble_eq_true rfl) ?_⟩
  show X (KM (some .int) (fun r h' => ∃ x, r = some (.int x) ∧ P x h')) RX5 cX5_lines 5 (d + 1) h 0 [(0, .ref r0), (1, .int i1)] []
  refine x_iload_n dX5_lines_0 rfl 1 rfl ?_
  refine x_iconst (v := (0 : Int32)) dX5_lines_1 (by decide) ?_
  refine x_bipush (v := (10 : Int32)) dX5_lines_2 (by decide) ?_
  refine x_sI sl_X5_61 dX5_lines_4 (As := [.int i1, .int (0 : Int32), .int (10 : Int32)]) rfl rfl (Nat.le_of_ble_eq_true rfl) (CI.mono H (fun x2 h1 H => ?_))
  refine x_if_ne (tgt := 13) dX5_lines_7 (by decide) (fun c => ?_) (fun c => ?_)
  · replace H := H.1 c
    refine x_aload_n dX5_lines_13 rfl 0 rfl ?_
    obtain ⟨x3, ex3, H⟩ := H
    refine x_getI fl_X5_58 dX5_lines_14 ex3 ?_
    refine x_istore_n dX5_lines_17 rfl (by decide) (lv' := [(2, .int x3), (0, .ref r0), (1, .int i1)]) rfl ?_
    refine x_aload_n dX5_lines_18 rfl 1 rfl ?_
    refine x_iload_n dX5_lines_19 rfl 2 rfl ?_
    obtain ⟨h4, eh4, H⟩ := H
    refine x_putI fp_X5_58 rfl rfl dX5_lines_20 eh4 ?_
    refine x_iconst (v := (0 : Int32)) dX5_lines_23 (by decide) ?_
    refine x_istore_n dX5_lines_24 rfl (by decide) (lv' := [(3, .int (0 : Int32)), (2, .int x3), (0, .ref r0), (1, .int i1)]) rfl ?_
    refine x_perm [2, 1, 0] rfl ?_
    exact H
  · replace H := H.2 c
    refine x_bipush (v := (-2 : Int32)) dX5_lines_10 (by decide) ?_
    exact x_iret dX5_lines_12 ⟨_, rfl, H⟩
set_option maxRecDepth 20000 in
theorem r_X5_lines_25 {d : Nat} {P : Int32 → Hp → Prop} {h : Hp} {r0 : Nat} {i2 : Int32} {i3 : Int32} (H : (((10 : Int32) ≤ i3 → P i2 h) ∧
  (¬ (10 : Int32) ≤ i3 → L_X5_lines_34 d P h r0 i2 i3 (0 : Int32)))) : L_X5_lines_25 d P h r0 i2 i3 := by
  show X (KM (some .int) (fun r h' => ∃ x, r = some (.int x) ∧ P x h')) RX5 cX5_lines 5 (d + 1) h 25 [(0, .ref r0), (2, .int i2), (3, .int i3)] []
  refine x_iload_n dX5_lines_25 rfl 2 rfl ?_
  refine x_bipush (v := (10 : Int32)) dX5_lines_26 (by decide) ?_
  refine x_icmp_ge (tgt := 60) dX5_lines_28 (by decide) (fun c => ?_) (fun c => ?_)
  · replace H := H.1 c
    refine x_iload_n dX5_lines_60 rfl 1 rfl ?_
    exact x_iret dX5_lines_61 ⟨_, rfl, H⟩
  · replace H := H.2 c
    refine x_iconst (v := (0 : Int32)) dX5_lines_31 (by decide) ?_
    refine x_istore dX5_lines_32 (by decide) (lv' := [(4, .int (0 : Int32)), (0, .ref r0), (2, .int i2), (3, .int i3)]) rfl ?_
    refine x_perm [1, 2, 3, 0] rfl ?_
    exact H
set_option maxRecDepth 20000 in
theorem r_X5_lines_34 {d : Nat} {P : Int32 → Hp → Prop} {h : Hp} {r0 : Nat} {i2 : Int32} {i3 : Int32} {i4 : Int32} (H : ((i3 ≤ i4 → L_X5_lines_25 d P h r0 i2 (i3 + (1 : Int32))) ∧
  (¬ i3 ≤ i4 → CV M_X5_set d [.ref r0, .int i3, .int i4, .int (1 : Int32)] h (fun h1 => L_X5_lines_34 d P h1 r0 i2 i3 (i4 + (1 : Int32)))))) : L_X5_lines_34 d P h r0 i2 i3 i4 := by
  show X (KM (some .int) (fun r h' => ∃ x, r = some (.int x) ∧ P x h')) RX5 cX5_lines 5 (d + 1) h 34 [(0, .ref r0), (2, .int i2), (3, .int i3), (4, .int i4)] []
  refine x_iload dX5_lines_34 3 rfl ?_
  refine x_iload_n dX5_lines_36 rfl 2 rfl ?_
  refine x_icmp_ge (tgt := 54) dX5_lines_37 (by decide) (fun c => ?_) (fun c => ?_)
  · replace H := H.1 c
    refine x_iinc (q := 2) (v := (i3 + (1 : Int32))) dX5_lines_54 rfl rfl (by decide) (lv' := [(3, .int (i3 + (1 : Int32))), (0, .ref r0), (2, .int i2), (4, .int i4)]) rfl ?_
    refine x_goto (tgt := 25) dX5_lines_57 (by decide) ?_
    refine x_perm [1, 2, 0] rfl ?_
    exact H
  · replace H := H.2 c
    refine x_aload_n dX5_lines_40 rfl 0 rfl ?_
    refine x_iload_n dX5_lines_41 rfl 2 rfl ?_
    refine x_iload dX5_lines_42 3 rfl ?_
    refine x_iconst (v := (1 : Int32)) dX5_lines_44 (by decide) ?_
    refine x_vV vl_X5_65 dX5_lines_45 (As := [.int i3, .int i4, .int (1 : Int32)]) rfl rfl (Nat.le_of_ble_eq_true rfl) (CV.mono H (fun h1 H => ?_))
    refine x_iinc (q := 3) (v := (i4 + (1 : Int32))) dX5_lines_48 rfl rfl (by decide) (lv' := [(4, .int (i4 + (1 : Int32))), (0, .ref r0), (2, .int i2), (3, .int i3)]) rfl ?_
    refine x_goto (tgt := 34) dX5_lines_51 (by decide) ?_
    refine x_perm [1, 2, 3, 0] rfl ?_
    exact H
set_option maxRecDepth 20000 in
theorem e_X5_sign {d : Nat} {P : Int32 → Hp → Prop} {h : Hp} {r0 : Nat} {i1 : Int32} {i2 : Int32} {i3 : Int32} (ho : r0 < 47 ∧ ∃ fs, h r0 = .inr (5, fs)) (H : CI M_X5_isLine d [.ref r0, .int i1] h (fun x2 h1 => ((x2 = 0 → P (-2 : Int32) h1) ∧
  (¬ x2 = 0 → CI M_X5_isLine d [.ref r0, .int i2] h1 (fun x4 h3 => ((x4 = 0 → P (-2 : Int32) h3) ∧
    (¬ x4 = 0 → ((i1 = i2 → P (-2 : Int32) h3) ∧
      (¬ i1 = i2 → ((i3 = (1 : Int32) → ∃ q5, gR h3 5 r0 1 = some q5 ∧ ∃ x6, lI h3 q5 (((10 : Int32) * i1) + i2) = some x6 ∧ CV M_X5_set d [.ref r0, .int i1, .int i2, .int i3] h3 (fun h7 => P x6 h7)) ∧
        (¬ i3 = (1 : Int32) → ((i3 = (-1 : Int32) → ∃ q8, gR h3 5 r0 1 = some q8 ∧ ∃ x9, lI h3 q8 (((10 : Int32) * i1) + i2) = some x9 ∧ CV M_X5_set d [.ref r0, .int i1, .int i2, .int i3] h3 (fun h10 => P x9 h10)) ∧
          (¬ i3 = (-1 : Int32) → P (-2 : Int32) h3))))))))))))) : CI M_X5_sign (d + 1) [.ref r0, .int i1, .int i2, .int i3] h P := by
  refine ⟨⟨r0, rfl, ho⟩, x_enter (by decide) (Nat.le_of_ble_eq_true rfl) ?_⟩
  show X (KM (some .int) (fun r h' => ∃ x, r = some (.int x) ∧ P x h')) RX5 cX5_sign 5 (d + 1) h 0 [(0, .ref r0), (1, .int i1), (2, .int i2), (3, .int i3)] []
  refine x_aload_n dX5_sign_0 rfl 0 rfl ?_
  refine x_iload_n dX5_sign_1 rfl 1 rfl ?_
  refine x_vI vl_X5_69 dX5_sign_2 (As := [.int i1]) rfl rfl (Nat.le_of_ble_eq_true rfl) (CI.mono H (fun x2 h1 H => ?_))
  refine x_if_eq (tgt := 31) dX5_sign_5 (by decide) (fun c => ?_) (fun c => ?_)
  · replace H := H.1 c
    refine x_bipush (v := (-2 : Int32)) dX5_sign_31 (by decide) ?_
    exact x_iret dX5_sign_33 ⟨_, rfl, H⟩
  · replace H := H.2 c
    refine x_aload_n dX5_sign_8 rfl 0 rfl ?_
    refine x_iload_n dX5_sign_9 rfl 2 rfl ?_
    refine x_vI vl_X5_69 dX5_sign_10 (As := [.int i2]) rfl rfl (Nat.le_of_ble_eq_true rfl) (CI.mono H (fun x4 h3 H => ?_))
    refine x_if_eq (tgt := 31) dX5_sign_13 (by decide) (fun c => ?_) (fun c => ?_)
    · replace H := H.1 c
      refine x_bipush (v := (-2 : Int32)) dX5_sign_31 (by decide) ?_
      exact x_iret dX5_sign_33 ⟨_, rfl, H⟩
    · replace H := H.2 c
      refine x_iload_n dX5_sign_16 rfl 1 rfl ?_
      refine x_iload_n dX5_sign_17 rfl 2 rfl ?_
      refine x_icmp_eq (tgt := 31) dX5_sign_18 (by decide) (fun c => ?_) (fun c => ?_)
      · replace H := H.1 c
        refine x_bipush (v := (-2 : Int32)) dX5_sign_31 (by decide) ?_
        exact x_iret dX5_sign_33 ⟨_, rfl, H⟩
      · replace H := H.2 c
        refine x_iload_n dX5_sign_21 rfl 3 rfl ?_
        refine x_iconst (v := (1 : Int32)) dX5_sign_22 (by decide) ?_
        refine x_icmp_eq (tgt := 34) dX5_sign_23 (by decide) (fun c => ?_) (fun c => ?_)
        · replace H := H.1 c
          refine x_aload_n dX5_sign_34 rfl 0 rfl ?_
          obtain ⟨q5, eq5, H⟩ := H
          refine x_getR fl_X5_7 dX5_sign_35 eq5 ?_
          refine x_bipush (v := (10 : Int32)) dX5_sign_38 (by decide) ?_
          refine x_iload_n dX5_sign_40 rfl 1 rfl ?_
          refine x_imul dX5_sign_41 ?_
          refine x_iload_n dX5_sign_42 rfl 2 rfl ?_
          refine x_iadd dX5_sign_43 ?_
          obtain ⟨x6, ex6, H⟩ := H
          refine x_iaload dX5_sign_44 ex6 ?_
          refine x_istore dX5_sign_45 (by decide) (lv' := [(4, .int x6), (0, .ref r0), (1, .int i1), (2, .int i2), (3, .int i3)]) rfl ?_
          refine x_aload_n dX5_sign_47 rfl 1 rfl ?_
          refine x_iload_n dX5_sign_48 rfl 2 rfl ?_
          refine x_iload_n dX5_sign_49 rfl 3 rfl ?_
          refine x_iload_n dX5_sign_50 rfl 4 rfl ?_
          refine x_vV vl_X5_65 dX5_sign_51 (As := [.int i1, .int i2, .int i3]) rfl rfl (Nat.le_of_ble_eq_true rfl) (CV.mono H (fun h7 H => ?_))
          refine x_iload dX5_sign_54 0 rfl ?_
          exact x_iret dX5_sign_56 ⟨_, rfl, H⟩
        · replace H := H.2 c
          refine x_iload_n dX5_sign_26 rfl 3 rfl ?_
          refine x_iconst (v := (-1 : Int32)) dX5_sign_27 (by decide) ?_
          refine x_icmp_eq (tgt := 34) dX5_sign_28 (by decide) (fun c => ?_) (fun c => ?_)
          · replace H := H.1 c
            refine x_aload_n dX5_sign_34 rfl 0 rfl ?_
            obtain ⟨q8, eq8, H⟩ := H
            refine x_getR fl_X5_7 dX5_sign_35 eq8 ?_
            refine x_bipush (v := (10 : Int32)) dX5_sign_38 (by decide) ?_
            refine x_iload_n dX5_sign_40 rfl 1 rfl ?_
            refine x_imul dX5_sign_41 ?_
            refine x_iload_n dX5_sign_42 rfl 2 rfl ?_
            refine x_iadd dX5_sign_43 ?_
            obtain ⟨x9, ex9, H⟩ := H
            refine x_iaload dX5_sign_44 ex9 ?_
            refine x_istore dX5_sign_45 (by decide) (lv' := [(4, .int x9), (0, .ref r0), (1, .int i1), (2, .int i2), (3, .int i3)]) rfl ?_
            refine x_aload_n dX5_sign_47 rfl 1 rfl ?_
            refine x_iload_n dX5_sign_48 rfl 2 rfl ?_
            refine x_iload_n dX5_sign_49 rfl 3 rfl ?_
            refine x_iload_n dX5_sign_50 rfl 4 rfl ?_
            refine x_vV vl_X5_65 dX5_sign_51 (As := [.int i1, .int i2, .int i3]) rfl rfl (Nat.le_of_ble_eq_true rfl) (CV.mono H (fun h10 H => ?_))
            refine x_iload dX5_sign_54 0 rfl ?_
            exact x_iret dX5_sign_56 ⟨_, rfl, H⟩
          · replace H := H.2 c
            refine x_bipush (v := (-2 : Int32)) dX5_sign_31 (by decide) ?_
            exact x_iret dX5_sign_33 ⟨_, rfl, H⟩
set_option maxRecDepth 20000 in
theorem e_X5_at {d : Nat} {P : Int32 → Hp → Prop} {h : Hp} {r0 : Nat} {i1 : Int32} {i2 : Int32} (ho : r0 < 47 ∧ ∃ fs, h r0 = .inr (5, fs)) (H : CI M_X5_isLine d [.ref r0, .int i1] h (fun x2 h1 => ((x2 = 0 → P (-2 : Int32) h1) ∧
  (¬ x2 = 0 → CI M_X5_isLine d [.ref r0, .int i2] h1 (fun x4 h3 => ((x4 = 0 → P (-2 : Int32) h3) ∧
    (¬ x4 = 0 → ∃ q5, gR h3 5 r0 1 = some q5 ∧ ∃ x6, lI h3 q5 (((10 : Int32) * i1) + i2) = some x6 ∧ P x6 h3))))))) : CI M_X5_at (d + 1) [.ref r0, .int i1, .int i2] h P := by
  refine ⟨⟨r0, rfl, ho⟩, x_enter (by decide) (Nat.le_of_ble_eq_true rfl) ?_⟩
  show X (KM (some .int) (fun r h' => ∃ x, r = some (.int x) ∧ P x h')) RX5 cX5_at 3 (d + 1) h 0 [(0, .ref r0), (1, .int i1), (2, .int i2)] []
  refine x_aload_n dX5_at_0 rfl 0 rfl ?_
  refine x_iload_n dX5_at_1 rfl 1 rfl ?_
  refine x_vI vl_X5_69 dX5_at_2 (As := [.int i1]) rfl rfl (Nat.le_of_ble_eq_true rfl) (CI.mono H (fun x2 h1 H => ?_))
  refine x_if_eq (tgt := 30) dX5_at_5 (by decide) (fun c => ?_) (fun c => ?_)
  · replace H := H.1 c
    refine x_bipush (v := (-2 : Int32)) dX5_at_30 (by decide) ?_
    exact x_iret dX5_at_32 ⟨_, rfl, H⟩
  · replace H := H.2 c
    refine x_aload_n dX5_at_8 rfl 0 rfl ?_
    refine x_iload_n dX5_at_9 rfl 2 rfl ?_
    refine x_vI vl_X5_69 dX5_at_10 (As := [.int i2]) rfl rfl (Nat.le_of_ble_eq_true rfl) (CI.mono H (fun x4 h3 H => ?_))
    refine x_if_eq (tgt := 30) dX5_at_13 (by decide) (fun c => ?_) (fun c => ?_)
    · replace H := H.1 c
      refine x_bipush (v := (-2 : Int32)) dX5_at_30 (by decide) ?_
      exact x_iret dX5_at_32 ⟨_, rfl, H⟩
    · replace H := H.2 c
      refine x_aload_n dX5_at_16 rfl 0 rfl ?_
      obtain ⟨q5, eq5, H⟩ := H
      refine x_getR fl_X5_7 dX5_at_17 eq5 ?_
      refine x_bipush (v := (10 : Int32)) dX5_at_20 (by decide) ?_
      refine x_iload_n dX5_at_22 rfl 1 rfl ?_
      refine x_imul dX5_at_23 ?_
      refine x_iload_n dX5_at_24 rfl 2 rfl ?_
      refine x_iadd dX5_at_25 ?_
      obtain ⟨x6, ex6, H⟩ := H
      refine x_iaload dX5_at_26 ex6 ?_
      refine x_goto (tgt := 32) dX5_at_27 (by decide) ?_
      exact x_iret dX5_at_32 ⟨_, rfl, H⟩
def L_X5_turn_15 (d : Nat) (P : Int32 → Hp → Prop) (h : Hp) (r0 : Nat) (i1 : Int32) (i2 : Int32) (i3 : Int32) : Prop := X (KM (some .int) (fun r h' => ∃ x, r = some (.int x) ∧ P x h')) RX5 cX5_turn 4 (d + 1) h 15 [(0, .ref r0), (1, .int i1), (2, .int i2), (3, .int i3)] []
set_option maxRecDepth 20000 in
theorem e_X5_turn {d : Nat} {P : Int32 → Hp → Prop} {h : Hp} {r0 : Nat} {i1 : Int32} (ho : r0 < 47 ∧ ∃ fs, h r0 = .inr (5, fs)) (H : CI M_X5_isLine d [.ref r0, .int i1] h (fun x2 h1 => ((¬ x2 = 0 → L_X5_turn_15 d P h1 r0 i1 (0 : Int32) (0 : Int32)) ∧
  (x2 = 0 → P (-2 : Int32) h1)))) : CI M_X5_turn (d + 1) [.ref r0, .int i1] h P := by
  refine ⟨⟨r0, rfl, ho⟩, x_enter (by decide) (Nat.le_of_ble_eq_true rfl) ?_⟩
  show X (KM (some .int) (fun r h' => ∃ x, r = some (.int x) ∧ P x h')) RX5 cX5_turn 4 (d + 1) h 0 [(0, .ref r0), (1, .int i1)] []
  refine x_aload_n dX5_turn_0 rfl 0 rfl ?_
  refine x_iload_n dX5_turn_1 rfl 1 rfl ?_
  refine x_vI vl_X5_69 dX5_turn_2 (As := [.int i1]) rfl rfl (Nat.le_of_ble_eq_true rfl) (CI.mono H (fun x2 h1 H => ?_))
  refine x_if_ne (tgt := 11) dX5_turn_5 (by decide) (fun c => ?_) (fun c => ?_)
  · replace H := H.1 c
    refine x_iconst (v := (0 : Int32)) dX5_turn_11 (by decide) ?_
    refine x_istore_n dX5_turn_12 rfl (by decide) (lv' := [(2, .int (0 : Int32)), (0, .ref r0), (1, .int i1)]) rfl ?_
    refine x_iconst (v := (0 : Int32)) dX5_turn_13 (by decide) ?_
    refine x_istore_n dX5_turn_14 rfl (by decide) (lv' := [(3, .int (0 : Int32)), (2, .int (0 : Int32)), (0, .ref r0), (1, .int i1)]) rfl ?_
    refine x_perm [2, 3, 1, 0] rfl ?_
    exact H
  · replace H := H.2 c
    refine x_bipush (v := (-2 : Int32)) dX5_turn_8 (by decide) ?_
    exact x_iret dX5_turn_10 ⟨_, rfl, H⟩
set_option maxRecDepth 20000 in
theorem r_X5_turn_15 {d : Nat} {P : Int32 → Hp → Prop} {h : Hp} {r0 : Nat} {i1 : Int32} {i2 : Int32} {i3 : Int32} (H : ∃ x1, gI h 5 r0 0 = some x1 ∧ ((x1 ≤ i3 → P i2 h) ∧
  (¬ x1 ≤ i3 → ((i3 = i1 → L_X5_turn_15 d P h r0 i1 i2 (i3 + (1 : Int32))) ∧
    (¬ i3 = i1 → ∃ q2, gR h 5 r0 1 = some q2 ∧ ∃ x3, lI h q2 (((10 : Int32) * i1) + i3) = some x3 ∧ CV M_X5_set d [.ref r0, .int i1, .int i3, .int (-x3)] h (fun h4 => ∃ q5, gR h4 5 r0 1 = some q5 ∧ ∃ x6, lI h4 q5 (((10 : Int32) * i1) + i3) = some x6 ∧ ((0 ≤ x6 → L_X5_turn_15 d P h4 r0 i1 (i2 + (0 : Int32)) (i3 + (1 : Int32))) ∧
      (¬ 0 ≤ x6 → L_X5_turn_15 d P h4 r0 i1 (i2 + (1 : Int32)) (i3 + (1 : Int32)))))))))) : L_X5_turn_15 d P h r0 i1 i2 i3 := by
  show X (KM (some .int) (fun r h' => ∃ x, r = some (.int x) ∧ P x h')) RX5 cX5_turn 4 (d + 1) h 15 [(0, .ref r0), (1, .int i1), (2, .int i2), (3, .int i3)] []
  refine x_iload_n dX5_turn_15 rfl 3 rfl ?_
  refine x_aload_n dX5_turn_16 rfl 0 rfl ?_
  obtain ⟨x1, ex1, H⟩ := H
  refine x_getI fl_X5_58 dX5_turn_17 ex1 ?_
  refine x_icmp_ge (tgt := 74) dX5_turn_20 (by decide) (fun c => ?_) (fun c => ?_)
  · replace H := H.1 c
    refine x_iload_n dX5_turn_74 rfl 2 rfl ?_
    exact x_iret dX5_turn_75 ⟨_, rfl, H⟩
  · replace H := H.2 c
    refine x_iload_n dX5_turn_23 rfl 3 rfl ?_
    refine x_iload_n dX5_turn_24 rfl 1 rfl ?_
    refine x_icmp_eq (tgt := 68) dX5_turn_25 (by decide) (fun c => ?_) (fun c => ?_)
    · replace H := H.1 c
      refine x_iinc (q := 3) (v := (i3 + (1 : Int32))) dX5_turn_68 rfl rfl (by decide) (lv' := [(3, .int (i3 + (1 : Int32))), (0, .ref r0), (1, .int i1), (2, .int i2)]) rfl ?_
      refine x_goto (tgt := 15) dX5_turn_71 (by decide) ?_
      refine x_perm [1, 2, 3, 0] rfl ?_
      exact H
    · replace H := H.2 c
      refine x_aload_n dX5_turn_28 rfl 0 rfl ?_
      refine x_iload_n dX5_turn_29 rfl 1 rfl ?_
      refine x_iload_n dX5_turn_30 rfl 3 rfl ?_
      refine x_aload_n dX5_turn_31 rfl 0 rfl ?_
      obtain ⟨q2, eq2, H⟩ := H
      refine x_getR fl_X5_7 dX5_turn_32 eq2 ?_
      refine x_bipush (v := (10 : Int32)) dX5_turn_35 (by decide) ?_
      refine x_iload_n dX5_turn_37 rfl 1 rfl ?_
      refine x_imul dX5_turn_38 ?_
      refine x_iload_n dX5_turn_39 rfl 3 rfl ?_
      refine x_iadd dX5_turn_40 ?_
      obtain ⟨x3, ex3, H⟩ := H
      refine x_iaload dX5_turn_41 ex3 ?_
      refine x_ineg dX5_turn_42 ?_
      refine x_vV vl_X5_65 dX5_turn_43 (As := [.int i1, .int i3, .int (-x3)]) rfl rfl (Nat.le_of_ble_eq_true rfl) (CV.mono H (fun h4 H => ?_))
      refine x_iload_n dX5_turn_46 rfl 2 rfl ?_
      refine x_aload_n dX5_turn_47 rfl 0 rfl ?_
      obtain ⟨q5, eq5, H⟩ := H
      refine x_getR fl_X5_7 dX5_turn_48 eq5 ?_
      refine x_bipush (v := (10 : Int32)) dX5_turn_51 (by decide) ?_
      refine x_iload_n dX5_turn_53 rfl 1 rfl ?_
      refine x_imul dX5_turn_54 ?_
      refine x_iload_n dX5_turn_55 rfl 3 rfl ?_
      refine x_iadd dX5_turn_56 ?_
      obtain ⟨x6, ex6, H⟩ := H
      refine x_iaload dX5_turn_57 ex6 ?_
      refine x_if_ge (tgt := 65) dX5_turn_58 (by decide) (fun c => ?_) (fun c => ?_)
      · replace H := H.1 c
        refine x_iconst (v := (0 : Int32)) dX5_turn_65 (by decide) ?_
        refine x_iadd dX5_turn_66 ?_
        refine x_istore_n dX5_turn_67 rfl (by decide) (lv' := [(2, .int (i2 + (0 : Int32))), (0, .ref r0), (1, .int i1), (3, .int i3)]) rfl ?_
        refine x_iinc (q := 3) (v := (i3 + (1 : Int32))) dX5_turn_68 rfl rfl (by decide) (lv' := [(3, .int (i3 + (1 : Int32))), (2, .int (i2 + (0 : Int32))), (0, .ref r0), (1, .int i1)]) rfl ?_
        refine x_goto (tgt := 15) dX5_turn_71 (by decide) ?_
        refine x_perm [2, 3, 1, 0] rfl ?_
        exact H
      · replace H := H.2 c
        refine x_iconst (v := (1 : Int32)) dX5_turn_61 (by decide) ?_
        refine x_goto (tgt := 66) dX5_turn_62 (by decide) ?_
        refine x_iadd dX5_turn_66 ?_
        refine x_istore_n dX5_turn_67 rfl (by decide) (lv' := [(2, .int (i2 + (1 : Int32))), (0, .ref r0), (1, .int i1), (3, .int i3)]) rfl ?_
        refine x_iinc (q := 3) (v := (i3 + (1 : Int32))) dX5_turn_68 rfl rfl (by decide) (lv' := [(3, .int (i3 + (1 : Int32))), (2, .int (i2 + (1 : Int32))), (0, .ref r0), (1, .int i1)]) rfl ?_
        refine x_goto (tgt := 15) dX5_turn_71 (by decide) ?_
        refine x_perm [2, 3, 1, 0] rfl ?_
        exact H
def L_X5_change_21 (d : Nat) (P : Int32 → Hp → Prop) (h : Hp) (r0 : Nat) (i1 : Int32) (i2 : Int32) (i3 : Int32) : Prop := X (KM (some .int) (fun r h' => ∃ x, r = some (.int x) ∧ P x h')) RX5 cX5_change 5 (d + 1) h 21 [(0, .ref r0), (1, .int i1), (2, .int i2), (3, .int i3)] []
set_option maxRecDepth 20000 in
theorem e_X5_change {d : Nat} {P : Int32 → Hp → Prop} {h : Hp} {r0 : Nat} {i1 : Int32} {i2 : Int32} (ho : r0 < 47 ∧ ∃ fs, h r0 = .inr (5, fs)) (H : CI M_X5_isLine d [.ref r0, .int i1] h (fun x2 h1 => ((x2 = 0 → P (-2 : Int32) h1) ∧
  (¬ x2 = 0 → CI M_X5_isLine d [.ref r0, .int i2] h1 (fun x4 h3 => ((¬ x4 = 0 → L_X5_change_21 d P h3 r0 i1 i2 (0 : Int32)) ∧
    (x4 = 0 → P (-2 : Int32) h3))))))) : CI M_X5_change (d + 1) [.ref r0, .int i1, .int i2] h P := by
  refine ⟨⟨r0, rfl, ho⟩, x_enter (by decide) (Nat.le_of_ble_eq_true rfl) ?_⟩
  show X (KM (some .int) (fun r h' => ∃ x, r = some (.int x) ∧ P x h')) RX5 cX5_change 5 (d + 1) h 0 [(0, .ref r0), (1, .int i1), (2, .int i2)] []
  refine x_aload_n dX5_change_0 rfl 0 rfl ?_
  refine x_iload_n dX5_change_1 rfl 1 rfl ?_
  refine x_vI vl_X5_69 dX5_change_2 (As := [.int i1]) rfl rfl (Nat.le_of_ble_eq_true rfl) (CI.mono H (fun x2 h1 H => ?_))
  refine x_if_eq (tgt := 16) dX5_change_5 (by decide) (fun c => ?_) (fun c => ?_)
  · replace H := H.1 c
    refine x_bipush (v := (-2 : Int32)) dX5_change_16 (by decide) ?_
    exact x_iret dX5_change_18 ⟨_, rfl, H⟩
  · replace H := H.2 c
    refine x_aload_n dX5_change_8 rfl 0 rfl ?_
    refine x_iload_n dX5_change_9 rfl 2 rfl ?_
    refine x_vI vl_X5_69 dX5_change_10 (As := [.int i2]) rfl rfl (Nat.le_of_ble_eq_true rfl) (CI.mono H (fun x4 h3 H => ?_))
    refine x_if_ne (tgt := 19) dX5_change_13 (by decide) (fun c => ?_) (fun c => ?_)
    · replace H := H.1 c
      refine x_iconst (v := (0 : Int32)) dX5_change_19 (by decide) ?_
      refine x_istore_n dX5_change_20 rfl (by decide) (lv' := [(3, .int (0 : Int32)), (0, .ref r0), (1, .int i1), (2, .int i2)]) rfl ?_
      refine x_perm [1, 2, 3, 0] rfl ?_
      exact H
    · replace H := H.2 c
      refine x_bipush (v := (-2 : Int32)) dX5_change_16 (by decide) ?_
      exact x_iret dX5_change_18 ⟨_, rfl, H⟩
set_option maxRecDepth 20000 in
theorem r_X5_change_21 {d : Nat} {P : Int32 → Hp → Prop} {h : Hp} {r0 : Nat} {i1 : Int32} {i2 : Int32} {i3 : Int32} (H : ∃ x1, gI h 5 r0 0 = some x1 ∧ ((x1 ≤ i3 → P (1 : Int32) h) ∧
  (¬ x1 ≤ i3 → ((i3 = i1 → L_X5_change_21 d P h r0 i1 i2 (i3 + (1 : Int32))) ∧
    (¬ i3 = i1 → ((i3 = i2 → L_X5_change_21 d P h r0 i1 i2 (i3 + (1 : Int32))) ∧
      (¬ i3 = i2 → ∃ q2, gR h 5 r0 1 = some q2 ∧ ∃ x3, lI h q2 (((10 : Int32) * i1) + i3) = some x3 ∧ ∃ q4, gR h 5 r0 1 = some q4 ∧ ∃ x5, lI h q4 (((10 : Int32) * i2) + i3) = some x5 ∧ CV M_X5_set d [.ref r0, .int i1, .int i3, .int x5] h (fun h6 => CV M_X5_set d [.ref r0, .int i2, .int i3, .int x3] h6 (fun h7 => L_X5_change_21 d P h7 r0 i1 i2 (i3 + (1 : Int32))))))))))) : L_X5_change_21 d P h r0 i1 i2 i3 := by
  show X (KM (some .int) (fun r h' => ∃ x, r = some (.int x) ∧ P x h')) RX5 cX5_change 5 (d + 1) h 21 [(0, .ref r0), (1, .int i1), (2, .int i2), (3, .int i3)] []
  refine x_iload_n dX5_change_21 rfl 3 rfl ?_
  refine x_aload_n dX5_change_22 rfl 0 rfl ?_
  obtain ⟨x1, ex1, H⟩ := H
  refine x_getI fl_X5_58 dX5_change_23 ex1 ?_
  refine x_icmp_ge (tgt := 83) dX5_change_26 (by decide) (fun c => ?_) (fun c => ?_)
  · replace H := H.1 c
    refine x_iconst (v := (1 : Int32)) dX5_change_83 (by decide) ?_
    exact x_iret dX5_change_84 ⟨_, rfl, H⟩
  · replace H := H.2 c
    refine x_iload_n dX5_change_29 rfl 3 rfl ?_
    refine x_iload_n dX5_change_30 rfl 1 rfl ?_
    refine x_icmp_eq (tgt := 77) dX5_change_31 (by decide) (fun c => ?_) (fun c => ?_)
    · replace H := H.1 c
      refine x_iinc (q := 3) (v := (i3 + (1 : Int32))) dX5_change_77 rfl rfl (by decide) (lv' := [(3, .int (i3 + (1 : Int32))), (0, .ref r0), (1, .int i1), (2, .int i2)]) rfl ?_
      refine x_goto (tgt := 21) dX5_change_80 (by decide) ?_
      refine x_perm [1, 2, 3, 0] rfl ?_
      exact H
    · replace H := H.2 c
      refine x_iload_n dX5_change_34 rfl 3 rfl ?_
      refine x_iload_n dX5_change_35 rfl 2 rfl ?_
      refine x_icmp_eq (tgt := 77) dX5_change_36 (by decide) (fun c => ?_) (fun c => ?_)
      · replace H := H.1 c
        refine x_iinc (q := 3) (v := (i3 + (1 : Int32))) dX5_change_77 rfl rfl (by decide) (lv' := [(3, .int (i3 + (1 : Int32))), (0, .ref r0), (1, .int i1), (2, .int i2)]) rfl ?_
        refine x_goto (tgt := 21) dX5_change_80 (by decide) ?_
        refine x_perm [1, 2, 3, 0] rfl ?_
        exact H
      · replace H := H.2 c
        refine x_aload_n dX5_change_39 rfl 0 rfl ?_
        obtain ⟨q2, eq2, H⟩ := H
        refine x_getR fl_X5_7 dX5_change_40 eq2 ?_
        refine x_bipush (v := (10 : Int32)) dX5_change_43 (by decide) ?_
        refine x_iload_n dX5_change_45 rfl 1 rfl ?_
        refine x_imul dX5_change_46 ?_
        refine x_iload_n dX5_change_47 rfl 3 rfl ?_
        refine x_iadd dX5_change_48 ?_
        obtain ⟨x3, ex3, H⟩ := H
        refine x_iaload dX5_change_49 ex3 ?_
        refine x_istore dX5_change_50 (by decide) (lv' := [(4, .int x3), (0, .ref r0), (1, .int i1), (2, .int i2), (3, .int i3)]) rfl ?_
        refine x_aload_n dX5_change_52 rfl 1 rfl ?_
        refine x_iload_n dX5_change_53 rfl 2 rfl ?_
        refine x_iload_n dX5_change_54 rfl 4 rfl ?_
        refine x_aload_n dX5_change_55 rfl 1 rfl ?_
        obtain ⟨q4, eq4, H⟩ := H
        refine x_getR fl_X5_7 dX5_change_56 eq4 ?_
        refine x_bipush (v := (10 : Int32)) dX5_change_59 (by decide) ?_
        refine x_iload_n dX5_change_61 rfl 3 rfl ?_
        refine x_imul dX5_change_62 ?_
        refine x_iload_n dX5_change_63 rfl 4 rfl ?_
        refine x_iadd dX5_change_64 ?_
        obtain ⟨x5, ex5, H⟩ := H
        refine x_iaload dX5_change_65 ex5 ?_
        refine x_vV vl_X5_65 dX5_change_66 (As := [.int i1, .int i3, .int x5]) rfl rfl (Nat.le_of_ble_eq_true rfl) (CV.mono H (fun h6 H => ?_))
        refine x_aload_n dX5_change_69 rfl 1 rfl ?_
        refine x_iload_n dX5_change_70 rfl 3 rfl ?_
        refine x_iload_n dX5_change_71 rfl 4 rfl ?_
        refine x_iload dX5_change_72 0 rfl ?_
        refine x_vV vl_X5_65 dX5_change_74 (As := [.int i2, .int i3, .int x3]) rfl rfl (Nat.le_of_ble_eq_true rfl) (CV.mono H (fun h7 H => ?_))
        refine x_iinc (q := 4) (v := (i3 + (1 : Int32))) dX5_change_77 rfl rfl (by decide) (lv' := [(3, .int (i3 + (1 : Int32))), (4, .int x3), (0, .ref r0), (1, .int i1), (2, .int i2)]) rfl ?_
        refine x_goto (tgt := 21) dX5_change_80 (by decide) ?_
        refine x_perm [2, 3, 4, 0] rfl ?_
        exact H
set_option maxRecDepth 20000 in
theorem e_X5_isOdd {d : Nat} {P : Int32 → Hp → Prop} {h : Hp} {r0 : Nat} {i1 : Int32} {i2 : Int32} {i3 : Int32} (ho : r0 < 47 ∧ ∃ fs, h r0 = .inr (5, fs)) (H : ∃ q1, gR h 5 r0 1 = some q1 ∧ ∃ x2, lI h q1 (((10 : Int32) * i1) + i2) = some x2 ∧ ∃ q3, gR h 5 r0 1 = some q3 ∧ ∃ x4, lI h q3 (((10 : Int32) * i1) + i3) = some x4 ∧ ∃ q5, gR h 5 r0 1 = some q5 ∧ ∃ x6, lI h q5 (((10 : Int32) * i2) + i3) = some x6 ∧ ((0 ≤ ((x2 * x4) * x6) → P (0 : Int32) h) ∧
  (¬ 0 ≤ ((x2 * x4) * x6) → P (1 : Int32) h))) : CI M_X5_isOdd (d + 1) [.ref r0, .int i1, .int i2, .int i3] h P := by
  refine ⟨⟨r0, rfl, ho⟩, x_enter (by decide) (Nat.le_of_ble_eq_true rfl) ?_⟩
  show X (KM (some .boolean) (fun r h' => ∃ x, r = some (.int x) ∧ P x h')) RX5 cX5_isOdd 4 (d + 1) h 0 [(0, .ref r0), (1, .int i1), (2, .int i2), (3, .int i3)] []
  refine x_aload_n dX5_isOdd_0 rfl 0 rfl ?_
  obtain ⟨q1, eq1, H⟩ := H
  refine x_getR fl_X5_7 dX5_isOdd_1 eq1 ?_
  refine x_bipush (v := (10 : Int32)) dX5_isOdd_4 (by decide) ?_
  refine x_iload_n dX5_isOdd_6 rfl 1 rfl ?_
  refine x_imul dX5_isOdd_7 ?_
  refine x_iload_n dX5_isOdd_8 rfl 2 rfl ?_
  refine x_iadd dX5_isOdd_9 ?_
  obtain ⟨x2, ex2, H⟩ := H
  refine x_iaload dX5_isOdd_10 ex2 ?_
  refine x_aload_n dX5_isOdd_11 rfl 0 rfl ?_
  obtain ⟨q3, eq3, H⟩ := H
  refine x_getR fl_X5_7 dX5_isOdd_12 eq3 ?_
  refine x_bipush (v := (10 : Int32)) dX5_isOdd_15 (by decide) ?_
  refine x_iload_n dX5_isOdd_17 rfl 1 rfl ?_
  refine x_imul dX5_isOdd_18 ?_
  refine x_iload_n dX5_isOdd_19 rfl 3 rfl ?_
  refine x_iadd dX5_isOdd_20 ?_
  obtain ⟨x4, ex4, H⟩ := H
  refine x_iaload dX5_isOdd_21 ex4 ?_
  refine x_imul dX5_isOdd_22 ?_
  refine x_aload_n dX5_isOdd_23 rfl 0 rfl ?_
  obtain ⟨q5, eq5, H⟩ := H
  refine x_getR fl_X5_7 dX5_isOdd_24 eq5 ?_
  refine x_bipush (v := (10 : Int32)) dX5_isOdd_27 (by decide) ?_
  refine x_iload_n dX5_isOdd_29 rfl 2 rfl ?_
  refine x_imul dX5_isOdd_30 ?_
  refine x_iload_n dX5_isOdd_31 rfl 3 rfl ?_
  refine x_iadd dX5_isOdd_32 ?_
  obtain ⟨x6, ex6, H⟩ := H
  refine x_iaload dX5_isOdd_33 ex6 ?_
  refine x_imul dX5_isOdd_34 ?_
  refine x_if_ge (tgt := 42) dX5_isOdd_35 (by decide) (fun c => ?_) (fun c => ?_)
  · replace H := H.1 c
    refine x_iconst (v := (0 : Int32)) dX5_isOdd_42 (by decide) ?_
    exact x_zret dX5_isOdd_43 (by decide) ⟨_, rfl, H⟩
  · replace H := H.2 c
    refine x_iconst (v := (1 : Int32)) dX5_isOdd_38 (by decide) ?_
    refine x_goto (tgt := 43) dX5_isOdd_39 (by decide) ?_
    exact x_zret dX5_isOdd_43 (by decide) ⟨_, rfl, H⟩
def L_X5_togetherOf_5 (d : Nat) (P : Int32 → Hp → Prop) (h : Hp) (r0 : Nat) (i1 : Int32) (i2 : Int32) (i3 : Int32) (i4 : Int32) : Prop := X (KM (some .int) (fun r h' => ∃ x, r = some (.int x) ∧ P x h')) RX5 cX5_togetherOf 5 (d + 1) h 5 [(0, .ref r0), (1, .int i1), (2, .int i2), (3, .int i3), (4, .int i4)] []
set_option maxRecDepth 20000 in
theorem e_X5_togetherOf {d : Nat} {P : Int32 → Hp → Prop} {h : Hp} {r0 : Nat} {i1 : Int32} {i2 : Int32} (ho : r0 < 47 ∧ ∃ fs, h r0 = .inr (5, fs)) (H : L_X5_togetherOf_5 d P h r0 i1 i2 (0 : Int32) (0 : Int32)) : CI M_X5_togetherOf (d + 1) [.ref r0, .int i1, .int i2] h P := by
  refine ⟨⟨r0, rfl, ho⟩, x_enter (by decide) (Nat.le_of_ble_eq_true rfl) ?_⟩
  show X (KM (some .int) (fun r h' => ∃ x, r = some (.int x) ∧ P x h')) RX5 cX5_togetherOf 5 (d + 1) h 0 [(0, .ref r0), (1, .int i1), (2, .int i2)] []
  refine x_iconst (v := (0 : Int32)) dX5_togetherOf_0 (by decide) ?_
  refine x_istore_n dX5_togetherOf_1 rfl (by decide) (lv' := [(3, .int (0 : Int32)), (0, .ref r0), (1, .int i1), (2, .int i2)]) rfl ?_
  refine x_iconst (v := (0 : Int32)) dX5_togetherOf_2 (by decide) ?_
  refine x_istore dX5_togetherOf_3 (by decide) (lv' := [(4, .int (0 : Int32)), (3, .int (0 : Int32)), (0, .ref r0), (1, .int i1), (2, .int i2)]) rfl ?_
  refine x_perm [2, 3, 4, 1, 0] rfl ?_
  exact H
set_option maxRecDepth 20000 in
theorem r_X5_togetherOf_5 {d : Nat} {P : Int32 → Hp → Prop} {h : Hp} {r0 : Nat} {i1 : Int32} {i2 : Int32} {i3 : Int32} {i4 : Int32} (H : ∃ x1, gI h 5 r0 0 = some x1 ∧ ((x1 ≤ i4 → P i3 h) ∧
  (¬ x1 ≤ i4 → ((i4 = i1 → L_X5_togetherOf_5 d P h r0 i1 i2 (i3 + (0 : Int32)) (i4 + (1 : Int32))) ∧
    (¬ i4 = i1 → ((i4 = i2 → L_X5_togetherOf_5 d P h r0 i1 i2 (i3 + (0 : Int32)) (i4 + (1 : Int32))) ∧
      (¬ i4 = i2 → CI M_X5_isOdd d [.ref r0, .int i1, .int i2, .int i4] h (fun x3 h2 => ((x3 = 0 → L_X5_togetherOf_5 d P h2 r0 i1 i2 (i3 + (0 : Int32)) (i4 + (1 : Int32))) ∧
        (¬ x3 = 0 → L_X5_togetherOf_5 d P h2 r0 i1 i2 (i3 + (1 : Int32)) (i4 + (1 : Int32)))))))))))) : L_X5_togetherOf_5 d P h r0 i1 i2 i3 i4 := by
  show X (KM (some .int) (fun r h' => ∃ x, r = some (.int x) ∧ P x h')) RX5 cX5_togetherOf 5 (d + 1) h 5 [(0, .ref r0), (1, .int i1), (2, .int i2), (3, .int i3), (4, .int i4)] []
  refine x_iload dX5_togetherOf_5 4 rfl ?_
  refine x_aload_n dX5_togetherOf_7 rfl 0 rfl ?_
  obtain ⟨x1, ex1, H⟩ := H
  refine x_getI fl_X5_58 dX5_togetherOf_8 ex1 ?_
  refine x_icmp_ge (tgt := 51) dX5_togetherOf_11 (by decide) (fun c => ?_) (fun c => ?_)
  · replace H := H.1 c
    refine x_iload_n dX5_togetherOf_51 rfl 3 rfl ?_
    exact x_iret dX5_togetherOf_52 ⟨_, rfl, H⟩
  · replace H := H.2 c
    refine x_iload_n dX5_togetherOf_14 rfl 3 rfl ?_
    refine x_iload dX5_togetherOf_15 4 rfl ?_
    refine x_iload_n dX5_togetherOf_17 rfl 1 rfl ?_
    refine x_icmp_eq (tgt := 42) dX5_togetherOf_18 (by decide) (fun c => ?_) (fun c => ?_)
    · replace H := H.1 c
      refine x_iconst (v := (0 : Int32)) dX5_togetherOf_42 (by decide) ?_
      refine x_iadd dX5_togetherOf_43 ?_
      refine x_istore_n dX5_togetherOf_44 rfl (by decide) (lv' := [(3, .int (i3 + (0 : Int32))), (0, .ref r0), (1, .int i1), (2, .int i2), (4, .int i4)]) rfl ?_
      refine x_iinc (q := 4) (v := (i4 + (1 : Int32))) dX5_togetherOf_45 rfl rfl (by decide) (lv' := [(4, .int (i4 + (1 : Int32))), (3, .int (i3 + (0 : Int32))), (0, .ref r0), (1, .int i1), (2, .int i2)]) rfl ?_
      refine x_goto (tgt := 5) dX5_togetherOf_48 (by decide) ?_
      refine x_perm [2, 3, 4, 1, 0] rfl ?_
      exact H
    · replace H := H.2 c
      refine x_iload dX5_togetherOf_21 4 rfl ?_
      refine x_iload_n dX5_togetherOf_23 rfl 2 rfl ?_
      refine x_icmp_eq (tgt := 42) dX5_togetherOf_24 (by decide) (fun c => ?_) (fun c => ?_)
      · replace H := H.1 c
        refine x_iconst (v := (0 : Int32)) dX5_togetherOf_42 (by decide) ?_
        refine x_iadd dX5_togetherOf_43 ?_
        refine x_istore_n dX5_togetherOf_44 rfl (by decide) (lv' := [(3, .int (i3 + (0 : Int32))), (0, .ref r0), (1, .int i1), (2, .int i2), (4, .int i4)]) rfl ?_
        refine x_iinc (q := 4) (v := (i4 + (1 : Int32))) dX5_togetherOf_45 rfl rfl (by decide) (lv' := [(4, .int (i4 + (1 : Int32))), (3, .int (i3 + (0 : Int32))), (0, .ref r0), (1, .int i1), (2, .int i2)]) rfl ?_
        refine x_goto (tgt := 5) dX5_togetherOf_48 (by decide) ?_
        refine x_perm [2, 3, 4, 1, 0] rfl ?_
        exact H
      · replace H := H.2 c
        refine x_aload_n dX5_togetherOf_27 rfl 0 rfl ?_
        refine x_iload_n dX5_togetherOf_28 rfl 1 rfl ?_
        refine x_iload_n dX5_togetherOf_29 rfl 2 rfl ?_
        refine x_iload dX5_togetherOf_30 4 rfl ?_
        refine x_vI vl_X5_73 dX5_togetherOf_32 (As := [.int i1, .int i2, .int i4]) rfl rfl (Nat.le_of_ble_eq_true rfl) (CI.mono H (fun x3 h2 H => ?_))
        refine x_if_eq (tgt := 42) dX5_togetherOf_35 (by decide) (fun c => ?_) (fun c => ?_)
        · replace H := H.1 c
          refine x_iconst (v := (0 : Int32)) dX5_togetherOf_42 (by decide) ?_
          refine x_iadd dX5_togetherOf_43 ?_
          refine x_istore_n dX5_togetherOf_44 rfl (by decide) (lv' := [(3, .int (i3 + (0 : Int32))), (0, .ref r0), (1, .int i1), (2, .int i2), (4, .int i4)]) rfl ?_
          refine x_iinc (q := 4) (v := (i4 + (1 : Int32))) dX5_togetherOf_45 rfl rfl (by decide) (lv' := [(4, .int (i4 + (1 : Int32))), (3, .int (i3 + (0 : Int32))), (0, .ref r0), (1, .int i1), (2, .int i2)]) rfl ?_
          refine x_goto (tgt := 5) dX5_togetherOf_48 (by decide) ?_
          refine x_perm [2, 3, 4, 1, 0] rfl ?_
          exact H
        · replace H := H.2 c
          refine x_iconst (v := (1 : Int32)) dX5_togetherOf_38 (by decide) ?_
          refine x_goto (tgt := 43) dX5_togetherOf_39 (by decide) ?_
          refine x_iadd dX5_togetherOf_43 ?_
          refine x_istore_n dX5_togetherOf_44 rfl (by decide) (lv' := [(3, .int (i3 + (1 : Int32))), (0, .ref r0), (1, .int i1), (2, .int i2), (4, .int i4)]) rfl ?_
          refine x_iinc (q := 4) (v := (i4 + (1 : Int32))) dX5_togetherOf_45 rfl rfl (by decide) (lv' := [(4, .int (i4 + (1 : Int32))), (3, .int (i3 + (1 : Int32))), (0, .ref r0), (1, .int i1), (2, .int i2)]) rfl ?_
          refine x_goto (tgt := 5) dX5_togetherOf_48 (by decide) ?_
          refine x_perm [2, 3, 4, 1, 0] rfl ?_
          exact H
def L_X5_odd_4 (d : Nat) (P : Int32 → Hp → Prop) (h : Hp) (r0 : Nat) (i1 : Int32) (i2 : Int32) : Prop := X (KM (some .int) (fun r h' => ∃ x, r = some (.int x) ∧ P x h')) RX5 cX5_odd 4 (d + 1) h 4 [(0, .ref r0), (1, .int i1), (2, .int i2)] []
def L_X5_odd_16 (d : Nat) (P : Int32 → Hp → Prop) (h : Hp) (r0 : Nat) (i1 : Int32) (i2 : Int32) (i3 : Int32) : Prop := X (KM (some .int) (fun r h' => ∃ x, r = some (.int x) ∧ P x h')) RX5 cX5_odd 4 (d + 1) h 16 [(0, .ref r0), (1, .int i1), (2, .int i2), (3, .int i3)] []
set_option maxRecDepth 20000 in
theorem e_X5_odd {d : Nat} {P : Int32 → Hp → Prop} {h : Hp} {r0 : Nat} (ho : r0 < 47 ∧ ∃ fs, h r0 = .inr (5, fs)) (H : L_X5_odd_4 d P h r0 (0 : Int32) (0 : Int32)) : CI M_X5_odd (d + 1) [.ref r0] h P := by
  refine ⟨⟨r0, rfl, ho⟩, x_enter (by decide) (Nat.le_of_ble_eq_true rfl) ?_⟩
  show X (KM (some .int) (fun r h' => ∃ x, r = some (.int x) ∧ P x h')) RX5 cX5_odd 4 (d + 1) h 0 [(0, .ref r0)] []
  refine x_iconst (v := (0 : Int32)) dX5_odd_0 (by decide) ?_
  refine x_istore_n dX5_odd_1 rfl (by decide) (lv' := [(1, .int (0 : Int32)), (0, .ref r0)]) rfl ?_
  refine x_iconst (v := (0 : Int32)) dX5_odd_2 (by decide) ?_
  refine x_istore_n dX5_odd_3 rfl (by decide) (lv' := [(2, .int (0 : Int32)), (1, .int (0 : Int32)), (0, .ref r0)]) rfl ?_
  refine x_perm [2, 1, 0] rfl ?_
  exact H
set_option maxRecDepth 20000 in
theorem r_X5_odd_4 {d : Nat} {P : Int32 → Hp → Prop} {h : Hp} {r0 : Nat} {i1 : Int32} {i2 : Int32} (H : ∃ x1, gI h 5 r0 0 = some x1 ∧ ((x1 ≤ i2 → P (i1 / (3 : Int32)) h) ∧
  (¬ x1 ≤ i2 → L_X5_odd_16 d P h r0 i1 i2 (i2 + (1 : Int32))))) : L_X5_odd_4 d P h r0 i1 i2 := by
  show X (KM (some .int) (fun r h' => ∃ x, r = some (.int x) ∧ P x h')) RX5 cX5_odd 4 (d + 1) h 4 [(0, .ref r0), (1, .int i1), (2, .int i2)] []
  refine x_iload_n dX5_odd_4 rfl 2 rfl ?_
  refine x_aload_n dX5_odd_5 rfl 0 rfl ?_
  obtain ⟨x1, ex1, H⟩ := H
  refine x_getI fl_X5_58 dX5_odd_6 ex1 ?_
  refine x_icmp_ge (tgt := 45) dX5_odd_9 (by decide) (fun c => ?_) (fun c => ?_)
  · replace H := H.1 c
    refine x_iload_n dX5_odd_45 rfl 1 rfl ?_
    refine x_iconst (v := (3 : Int32)) dX5_odd_46 (by decide) ?_
    refine x_idiv dX5_odd_47 (by decide) ?_
    exact x_iret dX5_odd_48 ⟨_, rfl, H⟩
  · replace H := H.2 c
    refine x_iload_n dX5_odd_12 rfl 2 rfl ?_
    refine x_iconst (v := (1 : Int32)) dX5_odd_13 (by decide) ?_
    refine x_iadd dX5_odd_14 ?_
    refine x_istore_n dX5_odd_15 rfl (by decide) (lv' := [(3, .int (i2 + (1 : Int32))), (0, .ref r0), (1, .int i1), (2, .int i2)]) rfl ?_
    refine x_perm [1, 2, 3, 0] rfl ?_
    exact H
set_option maxRecDepth 20000 in
theorem r_X5_odd_16 {d : Nat} {P : Int32 → Hp → Prop} {h : Hp} {r0 : Nat} {i1 : Int32} {i2 : Int32} {i3 : Int32} (H : ∃ x1, gI h 5 r0 0 = some x1 ∧ ((x1 ≤ i3 → L_X5_odd_4 d P h r0 i1 (i2 + (1 : Int32))) ∧
  (¬ x1 ≤ i3 → CI M_X5_togetherOf d [.ref r0, .int i2, .int i3] h (fun x3 h2 => L_X5_odd_16 d P h2 r0 (i1 + x3) i2 (i3 + (1 : Int32)))))) : L_X5_odd_16 d P h r0 i1 i2 i3 := by
  show X (KM (some .int) (fun r h' => ∃ x, r = some (.int x) ∧ P x h')) RX5 cX5_odd 4 (d + 1) h 16 [(0, .ref r0), (1, .int i1), (2, .int i2), (3, .int i3)] []
  refine x_iload_n dX5_odd_16 rfl 3 rfl ?_
  refine x_aload_n dX5_odd_17 rfl 0 rfl ?_
  obtain ⟨x1, ex1, H⟩ := H
  refine x_getI fl_X5_58 dX5_odd_18 ex1 ?_
  refine x_icmp_ge (tgt := 39) dX5_odd_21 (by decide) (fun c => ?_) (fun c => ?_)
  · replace H := H.1 c
    refine x_iinc (q := 2) (v := (i2 + (1 : Int32))) dX5_odd_39 rfl rfl (by decide) (lv' := [(2, .int (i2 + (1 : Int32))), (0, .ref r0), (1, .int i1), (3, .int i3)]) rfl ?_
    refine x_goto (tgt := 4) dX5_odd_42 (by decide) ?_
    refine x_perm [1, 2, 0] rfl ?_
    exact H
  · replace H := H.2 c
    refine x_iload_n dX5_odd_24 rfl 1 rfl ?_
    refine x_aload_n dX5_odd_25 rfl 0 rfl ?_
    refine x_iload_n dX5_odd_26 rfl 2 rfl ?_
    refine x_iload_n dX5_odd_27 rfl 3 rfl ?_
    refine x_vI vl_X5_76 dX5_odd_28 (As := [.int i2, .int i3]) rfl rfl (Nat.le_of_ble_eq_true rfl) (CI.mono H (fun x3 h2 H => ?_))
    refine x_iadd dX5_odd_31 ?_
    refine x_istore_n dX5_odd_32 rfl (by decide) (lv' := [(1, .int (i1 + x3)), (0, .ref r0), (2, .int i2), (3, .int i3)]) rfl ?_
    refine x_iinc (q := 3) (v := (i3 + (1 : Int32))) dX5_odd_33 rfl rfl (by decide) (lv' := [(3, .int (i3 + (1 : Int32))), (1, .int (i1 + x3)), (0, .ref r0), (2, .int i2)]) rfl ?_
    refine x_goto (tgt := 16) dX5_odd_36 (by decide) ?_
    refine x_perm [2, 1, 3, 0] rfl ?_
    exact H
set_option maxRecDepth 20000 in
theorem e_X5_together {d : Nat} {P : Int32 → Hp → Prop} {h : Hp} {r0 : Nat} {i1 : Int32} {i2 : Int32} (ho : r0 < 47 ∧ ∃ fs, h r0 = .inr (5, fs)) (H : CI M_X5_isLine d [.ref r0, .int i1] h (fun x2 h1 => ((x2 = 0 → P (-2 : Int32) h1) ∧
  (¬ x2 = 0 → CI M_X5_isLine d [.ref r0, .int i2] h1 (fun x4 h3 => ((x4 = 0 → P (-2 : Int32) h3) ∧
    (¬ x4 = 0 → ((i1 = i2 → P (-2 : Int32) h3) ∧
      (¬ i1 = i2 → CI M_X5_togetherOf d [.ref r0, .int i1, .int i2] h3 (fun x6 h5 => P x6 h5)))))))))) : CI M_X5_together (d + 1) [.ref r0, .int i1, .int i2] h P := by
  refine ⟨⟨r0, rfl, ho⟩, x_enter (by decide) (Nat.le_of_ble_eq_true rfl) ?_⟩
  show X (KM (some .int) (fun r h' => ∃ x, r = some (.int x) ∧ P x h')) RX5 cX5_together 3 (d + 1) h 0 [(0, .ref r0), (1, .int i1), (2, .int i2)] []
  refine x_aload_n dX5_together_0 rfl 0 rfl ?_
  refine x_iload_n dX5_together_1 rfl 1 rfl ?_
  refine x_vI vl_X5_69 dX5_together_2 (As := [.int i1]) rfl rfl (Nat.le_of_ble_eq_true rfl) (CI.mono H (fun x2 h1 H => ?_))
  refine x_if_eq (tgt := 30) dX5_together_5 (by decide) (fun c => ?_) (fun c => ?_)
  · replace H := H.1 c
    refine x_bipush (v := (-2 : Int32)) dX5_together_30 (by decide) ?_
    exact x_iret dX5_together_32 ⟨_, rfl, H⟩
  · replace H := H.2 c
    refine x_aload_n dX5_together_8 rfl 0 rfl ?_
    refine x_iload_n dX5_together_9 rfl 2 rfl ?_
    refine x_vI vl_X5_69 dX5_together_10 (As := [.int i2]) rfl rfl (Nat.le_of_ble_eq_true rfl) (CI.mono H (fun x4 h3 H => ?_))
    refine x_if_eq (tgt := 30) dX5_together_13 (by decide) (fun c => ?_) (fun c => ?_)
    · replace H := H.1 c
      refine x_bipush (v := (-2 : Int32)) dX5_together_30 (by decide) ?_
      exact x_iret dX5_together_32 ⟨_, rfl, H⟩
    · replace H := H.2 c
      refine x_iload_n dX5_together_16 rfl 1 rfl ?_
      refine x_iload_n dX5_together_17 rfl 2 rfl ?_
      refine x_icmp_eq (tgt := 30) dX5_together_18 (by decide) (fun c => ?_) (fun c => ?_)
      · replace H := H.1 c
        refine x_bipush (v := (-2 : Int32)) dX5_together_30 (by decide) ?_
        exact x_iret dX5_together_32 ⟨_, rfl, H⟩
      · replace H := H.2 c
        refine x_aload_n dX5_together_21 rfl 0 rfl ?_
        refine x_iload_n dX5_together_22 rfl 1 rfl ?_
        refine x_iload_n dX5_together_23 rfl 2 rfl ?_
        refine x_vI vl_X5_76 dX5_together_24 (As := [.int i1, .int i2]) rfl rfl (Nat.le_of_ble_eq_true rfl) (CI.mono H (fun x6 h5 H => ?_))
        refine x_goto (tgt := 32) dX5_together_27 (by decide) ?_
        exact x_iret dX5_together_32 ⟨_, rfl, H⟩
def L_X5_regular_2 (d : Nat) (P : Int32 → Hp → Prop) (h : Hp) (r0 : Nat) (i1 : Int32) : Prop := X (KM (some .int) (fun r h' => ∃ x, r = some (.int x) ∧ P x h')) RX5 cX5_regular 3 (d + 1) h 2 [(0, .ref r0), (1, .int i1)] []
def L_X5_regular_14 (d : Nat) (P : Int32 → Hp → Prop) (h : Hp) (r0 : Nat) (i1 : Int32) (i2 : Int32) : Prop := X (KM (some .int) (fun r h' => ∃ x, r = some (.int x) ∧ P x h')) RX5 cX5_regular 3 (d + 1) h 14 [(0, .ref r0), (1, .int i1), (2, .int i2)] []
set_option maxRecDepth 20000 in
theorem e_X5_regular {d : Nat} {P : Int32 → Hp → Prop} {h : Hp} {r0 : Nat} (ho : r0 < 47 ∧ ∃ fs, h r0 = .inr (5, fs)) (H : L_X5_regular_2 d P h r0 (0 : Int32)) : CI M_X5_regular (d + 1) [.ref r0] h P := by
  refine ⟨⟨r0, rfl, ho⟩, x_enter (by decide) (Nat.le_of_ble_eq_true rfl) ?_⟩
  show X (KM (some .int) (fun r h' => ∃ x, r = some (.int x) ∧ P x h')) RX5 cX5_regular 3 (d + 1) h 0 [(0, .ref r0)] []
  refine x_iconst (v := (0 : Int32)) dX5_regular_0 (by decide) ?_
  refine x_istore_n dX5_regular_1 rfl (by decide) (lv' := [(1, .int (0 : Int32)), (0, .ref r0)]) rfl ?_
  refine x_perm [1, 0] rfl ?_
  exact H
set_option maxRecDepth 20000 in
theorem r_X5_regular_2 {d : Nat} {P : Int32 → Hp → Prop} {h : Hp} {r0 : Nat} {i1 : Int32} (H : ∃ x1, gI h 5 r0 0 = some x1 ∧ ((x1 ≤ i1 → P (1 : Int32) h) ∧
  (¬ x1 ≤ i1 → L_X5_regular_14 d P h r0 i1 (i1 + (1 : Int32))))) : L_X5_regular_2 d P h r0 i1 := by
  show X (KM (some .int) (fun r h' => ∃ x, r = some (.int x) ∧ P x h')) RX5 cX5_regular 3 (d + 1) h 2 [(0, .ref r0), (1, .int i1)] []
  refine x_iload_n dX5_regular_2 rfl 1 rfl ?_
  refine x_aload_n dX5_regular_3 rfl 0 rfl ?_
  obtain ⟨x1, ex1, H⟩ := H
  refine x_getI fl_X5_58 dX5_regular_4 ex1 ?_
  refine x_icmp_ge (tgt := 51) dX5_regular_7 (by decide) (fun c => ?_) (fun c => ?_)
  · replace H := H.1 c
    refine x_iconst (v := (1 : Int32)) dX5_regular_51 (by decide) ?_
    exact x_iret dX5_regular_52 ⟨_, rfl, H⟩
  · replace H := H.2 c
    refine x_iload_n dX5_regular_10 rfl 1 rfl ?_
    refine x_iconst (v := (1 : Int32)) dX5_regular_11 (by decide) ?_
    refine x_iadd dX5_regular_12 ?_
    refine x_istore_n dX5_regular_13 rfl (by decide) (lv' := [(2, .int (i1 + (1 : Int32))), (0, .ref r0), (1, .int i1)]) rfl ?_
    refine x_perm [1, 2, 0] rfl ?_
    exact H
set_option maxRecDepth 20000 in
theorem r_X5_regular_14 {d : Nat} {P : Int32 → Hp → Prop} {h : Hp} {r0 : Nat} {i1 : Int32} {i2 : Int32} (H : ∃ x1, gI h 5 r0 0 = some x1 ∧ ((x1 ≤ i2 → L_X5_regular_2 d P h r0 (i1 + (1 : Int32))) ∧
  (¬ x1 ≤ i2 → CI M_X5_togetherOf d [.ref r0, .int i1, .int i2] h (fun x3 h2 => CI M_X5_togetherOf d [.ref r0, .int (0 : Int32), .int (1 : Int32)] h2 (fun x5 h4 => ((x3 = x5 → L_X5_regular_14 d P h4 r0 i1 (i2 + (1 : Int32))) ∧
    (¬ x3 = x5 → P (0 : Int32) h4))))))) : L_X5_regular_14 d P h r0 i1 i2 := by
  show X (KM (some .int) (fun r h' => ∃ x, r = some (.int x) ∧ P x h')) RX5 cX5_regular 3 (d + 1) h 14 [(0, .ref r0), (1, .int i1), (2, .int i2)] []
  refine x_iload_n dX5_regular_14 rfl 2 rfl ?_
  refine x_aload_n dX5_regular_15 rfl 0 rfl ?_
  obtain ⟨x1, ex1, H⟩ := H
  refine x_getI fl_X5_58 dX5_regular_16 ex1 ?_
  refine x_icmp_ge (tgt := 45) dX5_regular_19 (by decide) (fun c => ?_) (fun c => ?_)
  · replace H := H.1 c
    refine x_iinc (q := 1) (v := (i1 + (1 : Int32))) dX5_regular_45 rfl rfl (by decide) (lv' := [(1, .int (i1 + (1 : Int32))), (0, .ref r0), (2, .int i2)]) rfl ?_
    refine x_goto (tgt := 2) dX5_regular_48 (by decide) ?_
    refine x_perm [1, 0] rfl ?_
    exact H
  · replace H := H.2 c
    refine x_aload_n dX5_regular_22 rfl 0 rfl ?_
    refine x_iload_n dX5_regular_23 rfl 1 rfl ?_
    refine x_iload_n dX5_regular_24 rfl 2 rfl ?_
    refine x_vI vl_X5_76 dX5_regular_25 (As := [.int i1, .int i2]) rfl rfl (Nat.le_of_ble_eq_true rfl) (CI.mono H (fun x3 h2 H => ?_))
    refine x_aload_n dX5_regular_28 rfl 0 rfl ?_
    refine x_iconst (v := (0 : Int32)) dX5_regular_29 (by decide) ?_
    refine x_iconst (v := (1 : Int32)) dX5_regular_30 (by decide) ?_
    refine x_vI vl_X5_76 dX5_regular_31 (As := [.int (0 : Int32), .int (1 : Int32)]) rfl rfl (Nat.le_of_ble_eq_true rfl) (CI.mono H (fun x5 h4 H => ?_))
    refine x_icmp_eq (tgt := 39) dX5_regular_34 (by decide) (fun c => ?_) (fun c => ?_)
    · replace H := H.1 c
      refine x_iinc (q := 2) (v := (i2 + (1 : Int32))) dX5_regular_39 rfl rfl (by decide) (lv' := [(2, .int (i2 + (1 : Int32))), (0, .ref r0), (1, .int i1)]) rfl ?_
      refine x_goto (tgt := 14) dX5_regular_42 (by decide) ?_
      refine x_perm [1, 2, 0] rfl ?_
      exact H
    · replace H := H.2 c
      refine x_iconst (v := (0 : Int32)) dX5_regular_37 (by decide) ?_
      exact x_iret dX5_regular_38 ⟨_, rfl, H⟩
set_option maxRecDepth 20000 in
theorem e_X5_angle {d : Nat} {P : Int32 → Hp → Prop} {h : Hp} {r0 : Nat} {i1 : Int32} (ho : r0 < 47 ∧ ∃ fs, h r0 = .inr (5, fs)) (H : CI M_X5_in d [.int i1, .int (3 : Int32), .int (9 : Int32)] h (fun x2 h1 => ((x2 = 0 → P (-2 : Int32) h1) ∧
  (¬ x2 = 0 → ((¬ (irem i1 (2 : Int32)) = 0 → ∃ x3, gI h1 5 r0 2 = some x3 ∧ ∃ h4, sF h1 5 r0 2 (.int i1) = some h4 ∧ P x3 h4) ∧
    ((irem i1 (2 : Int32)) = 0 → P (-2 : Int32) h1)))))) : CI M_X5_angle (d + 1) [.ref r0, .int i1] h P := by
  refine ⟨⟨r0, rfl, ho⟩, x_enter (by decide) (Nat.le_of_ble_eq_true rfl) ?_⟩
  show X (KM (some .int) (fun r h' => ∃ x, r = some (.int x) ∧ P x h')) RX5 cX5_angle 3 (d + 1) h 0 [(0, .ref r0), (1, .int i1)] []
  refine x_iload_n dX5_angle_0 rfl 1 rfl ?_
  refine x_iconst (v := (3 : Int32)) dX5_angle_1 (by decide) ?_
  refine x_bipush (v := (9 : Int32)) dX5_angle_2 (by decide) ?_
  refine x_sI sl_X5_61 dX5_angle_4 (As := [.int i1, .int (3 : Int32), .int (9 : Int32)]) rfl rfl (Nat.le_of_ble_eq_true rfl) (CI.mono H (fun x2 h1 H => ?_))
  refine x_if_eq (tgt := 16) dX5_angle_7 (by decide) (fun c => ?_) (fun c => ?_)
  · replace H := H.1 c
    refine x_bipush (v := (-2 : Int32)) dX5_angle_16 (by decide) ?_
    exact x_iret dX5_angle_18 ⟨_, rfl, H⟩
  · replace H := H.2 c
    refine x_iload_n dX5_angle_10 rfl 1 rfl ?_
    refine x_iconst (v := (2 : Int32)) dX5_angle_11 (by decide) ?_
    refine x_irem dX5_angle_12 (by decide) ?_
    refine x_if_ne (tgt := 19) dX5_angle_13 (by decide) (fun c => ?_) (fun c => ?_)
    · replace H := H.1 c
      refine x_aload_n dX5_angle_19 rfl 0 rfl ?_
      obtain ⟨x3, ex3, H⟩ := H
      refine x_getI fl_X5_13 dX5_angle_20 ex3 ?_
      refine x_istore_n dX5_angle_23 rfl (by decide) (lv' := [(2, .int x3), (0, .ref r0), (1, .int i1)]) rfl ?_
      refine x_aload_n dX5_angle_24 rfl 1 rfl ?_
      refine x_iload_n dX5_angle_25 rfl 2 rfl ?_
      obtain ⟨h4, eh4, H⟩ := H
      refine x_putI fp_X5_13 rfl rfl dX5_angle_26 eh4 ?_
      refine x_iload_n dX5_angle_29 rfl 0 rfl ?_
      exact x_iret dX5_angle_30 ⟨_, rfl, H⟩
    · replace H := H.2 c
      refine x_bipush (v := (-2 : Int32)) dX5_angle_16 (by decide) ?_
      exact x_iret dX5_angle_18 ⟨_, rfl, H⟩
def L_X5_reckon_2 (d : Nat) (P : Hp → Prop) (h : Hp) (r0 : Nat) (i1 : Int32) (i2 : Int32) (i3 : Int32) : Prop := X (KM (none) (fun r h' => r = none ∧ P h')) RX5 cX5_reckon 9 (d + 1) h 2 [(0, .ref r0), (1, .int i1), (2, .int i2), (3, .int i3)] []
def L_X5_reckon_66 (d : Nat) (P : Hp → Prop) (h : Hp) (r0 : Nat) (i1 : Int32) (i3 : Int32) : Prop := X (KM (none) (fun r h' => r = none ∧ P h')) RX5 cX5_reckon 9 (d + 1) h 66 [(0, .ref r0), (1, .int i1), (3, .int i3)] []
def L_X5_reckon_74 (d : Nat) (P : Hp → Prop) (h : Hp) (r0 : Nat) (i1 : Int32) (i3 : Int32) (i4 : Int32) : Prop := X (KM (none) (fun r h' => r = none ∧ P h')) RX5 cX5_reckon 9 (d + 1) h 74 [(0, .ref r0), (1, .int i1), (3, .int i3), (4, .int i4)] []
def L_X5_reckon_83 (d : Nat) (P : Hp → Prop) (h : Hp) (r0 : Nat) (i1 : Int32) (i3 : Int32) (i4 : Int32) (i5 : Int32) : Prop := X (KM (none) (fun r h' => r = none ∧ P h')) RX5 cX5_reckon 9 (d + 1) h 83 [(0, .ref r0), (1, .int i1), (3, .int i3), (4, .int i4), (5, .int i5)] []
def L_X5_reckon_95 (d : Nat) (P : Hp → Prop) (h : Hp) (r0 : Nat) (i1 : Int32) (i3 : Int32) (i4 : Int32) (i5 : Int32) (l6 : Int64) (i8 : Int32) : Prop := X (KM (none) (fun r h' => r = none ∧ P h')) RX5 cX5_reckon 9 (d + 1) h 95 [(0, .ref r0), (1, .int i1), (3, .int i3), (4, .int i4), (5, .int i5), (6, .long l6), (8, .int i8)] []
def L_X5_reckon_176 (d : Nat) (P : Hp → Prop) (h : Hp) (r0 : Nat) (i1 : Int32) (i3 : Int32) (i4 : Int32) : Prop := X (KM (none) (fun r h' => r = none ∧ P h')) RX5 cX5_reckon 9 (d + 1) h 176 [(0, .ref r0), (1, .int i1), (3, .int i3), (4, .int i4)] []
def L_X5_reckon_210 (d : Nat) (P : Hp → Prop) (h : Hp) (r0 : Nat) (i1 : Int32) (i3 : Int32) (i4 : Int32) : Prop := X (KM (none) (fun r h' => r = none ∧ P h')) RX5 cX5_reckon 9 (d + 1) h 210 [(0, .ref r0), (1, .int i1), (3, .int i3), (4, .int i4)] []
def L_X5_reckon_243 (d : Nat) (P : Hp → Prop) (h : Hp) (r0 : Nat) (i1 : Int32) (i3 : Int32) (l4 : Int64) (i6 : Int32) : Prop := X (KM (none) (fun r h' => r = none ∧ P h')) RX5 cX5_reckon 9 (d + 1) h 243 [(0, .ref r0), (1, .int i1), (3, .int i3), (4, .long l4), (6, .int i6)] []
set_option maxRecDepth 20000 in
theorem e_X5_reckon {d : Nat} {P : Hp → Prop} {h : Hp} {r0 : Nat} {i1 : Int32} {i2 : Int32} (ho : r0 < 47 ∧ ∃ fs, h r0 = .inr (5, fs)) (H : L_X5_reckon_2 d P h r0 i1 i2 (0 : Int32)) : CV M_X5_reckon (d + 1) [.ref r0, .int i1, .int i2] h P := by
  refine ⟨⟨r0, rfl, ho⟩, x_enter (by decide) (Nat.le_of_ble_eq_true rfl) ?_⟩
  show X (KM (none) (fun r h' => r = none ∧ P h')) RX5 cX5_reckon 9 (d + 1) h 0 [(0, .ref r0), (1, .int i1), (2, .int i2)] []
  refine x_iconst (v := (0 : Int32)) dX5_reckon_0 (by decide) ?_
  refine x_istore_n dX5_reckon_1 rfl (by decide) (lv' := [(3, .int (0 : Int32)), (0, .ref r0), (1, .int i1), (2, .int i2)]) rfl ?_
  refine x_perm [1, 2, 3, 0] rfl ?_
  exact H
set_option maxRecDepth 20000 in
theorem r_X5_reckon_2 {d : Nat} {P : Hp → Prop} {h : Hp} {r0 : Nat} {i1 : Int32} {i2 : Int32} {i3 : Int32} (H : (((100 : Int32) ≤ i3 → ∃ q1, gR h 5 r0 7 = some q1 ∧ ∃ h2, sJ h q1 (0 : Int32) (1 : Int64) = some h2 ∧ L_X5_reckon_66 d P h2 r0 i1 (1 : Int32)) ∧
  (¬ (100 : Int32) ≤ i3 → ∃ q3, gR h 5 r0 3 = some q3 ∧ ((¬ (irem i3 (11 : Int32)) = 0 → ∃ q4, gR h 5 r0 1 = some q4 ∧ ∃ x5, lI h q4 i3 = some x5 ∧ ∃ h6, sJ h q3 i3 x5.toInt64 = some h6 ∧ ∃ q7, gR h6 5 r0 4 = some q7 ∧ ((¬ (irem i3 (11 : Int32)) = 0 → ∃ h8, sJ h6 q7 i3 (0 : Int64) = some h8 ∧ L_X5_reckon_2 d P h8 r0 i1 i2 (i3 + (1 : Int32))) ∧
      ((irem i3 (11 : Int32)) = 0 → ∃ h9, sJ h6 q7 i3 (1 : Int64) = some h9 ∧ L_X5_reckon_2 d P h9 r0 i1 i2 (i3 + (1 : Int32))))) ∧
    ((irem i3 (11 : Int32)) = 0 → ∃ h10, sJ h q3 i3 i2.toInt64 = some h10 ∧ ∃ q11, gR h10 5 r0 4 = some q11 ∧ ((¬ (irem i3 (11 : Int32)) = 0 → ∃ h12, sJ h10 q11 i3 (0 : Int64) = some h12 ∧ L_X5_reckon_2 d P h12 r0 i1 i2 (i3 + (1 : Int32))) ∧
      ((irem i3 (11 : Int32)) = 0 → ∃ h13, sJ h10 q11 i3 (1 : Int64) = some h13 ∧ L_X5_reckon_2 d P h13 r0 i1 i2 (i3 + (1 : Int32))))))))) : L_X5_reckon_2 d P h r0 i1 i2 i3 := by
  show X (KM (none) (fun r h' => r = none ∧ P h')) RX5 cX5_reckon 9 (d + 1) h 2 [(0, .ref r0), (1, .int i1), (2, .int i2), (3, .int i3)] []
  refine x_iload_n dX5_reckon_2 rfl 3 rfl ?_
  refine x_bipush (v := (100 : Int32)) dX5_reckon_3 (by decide) ?_
  refine x_icmp_ge (tgt := 57) dX5_reckon_5 (by decide) (fun c => ?_) (fun c => ?_)
  · replace H := H.1 c
    refine x_aload_n dX5_reckon_57 rfl 0 rfl ?_
    obtain ⟨q1, eq1, H⟩ := H
    refine x_getR fl_X5_30 dX5_reckon_58 eq1 ?_
    refine x_iconst (v := (0 : Int32)) dX5_reckon_61 (by decide) ?_
    refine x_lconst (v := (1 : Int64)) dX5_reckon_62 (by decide) ?_
    obtain ⟨h2, eh2, H⟩ := H
    refine x_lastore dX5_reckon_63 eh2 ?_
    refine x_iconst (v := (1 : Int32)) dX5_reckon_64 (by decide) ?_
    refine x_istore_n dX5_reckon_65 rfl (by decide) (lv' := [(3, .int (1 : Int32)), (0, .ref r0), (1, .int i1), (2, .int i2)]) rfl ?_
    refine x_perm [1, 2, 0] rfl ?_
    exact H
  · replace H := H.2 c
    refine x_aload_n dX5_reckon_8 rfl 0 rfl ?_
    obtain ⟨q3, eq3, H⟩ := H
    refine x_getR fl_X5_17 dX5_reckon_9 eq3 ?_
    refine x_iload_n dX5_reckon_12 rfl 3 rfl ?_
    refine x_iload_n dX5_reckon_13 rfl 3 rfl ?_
    refine x_bipush (v := (11 : Int32)) dX5_reckon_14 (by decide) ?_
    refine x_irem dX5_reckon_16 (by decide) ?_
    refine x_if_ne (tgt := 25) dX5_reckon_17 (by decide) (fun c => ?_) (fun c => ?_)
    · replace H := H.1 c
      refine x_aload_n dX5_reckon_25 rfl 0 rfl ?_
      obtain ⟨q4, eq4, H⟩ := H
      refine x_getR fl_X5_7 dX5_reckon_26 eq4 ?_
      refine x_iload_n dX5_reckon_29 rfl 3 rfl ?_
      obtain ⟨x5, ex5, H⟩ := H
      refine x_iaload dX5_reckon_30 ex5 ?_
      refine x_i2l dX5_reckon_31 ?_
      obtain ⟨h6, eh6, H⟩ := H
      refine x_lastore dX5_reckon_32 eh6 ?_
      refine x_aload_n dX5_reckon_33 rfl 0 rfl ?_
      obtain ⟨q7, eq7, H⟩ := H
      refine x_getR fl_X5_21 dX5_reckon_34 eq7 ?_
      refine x_iload_n dX5_reckon_37 rfl 3 rfl ?_
      refine x_iload_n dX5_reckon_38 rfl 3 rfl ?_
      refine x_bipush (v := (11 : Int32)) dX5_reckon_39 (by decide) ?_
      refine x_irem dX5_reckon_41 (by decide) ?_
      refine x_if_ne (tgt := 49) dX5_reckon_42 (by decide) (fun c => ?_) (fun c => ?_)
      · replace H := H.1 c
        refine x_lconst (v := (0 : Int64)) dX5_reckon_49 (by decide) ?_
        obtain ⟨h8, eh8, H⟩ := H
        refine x_lastore dX5_reckon_50 eh8 ?_
        refine x_iinc (q := 3) (v := (i3 + (1 : Int32))) dX5_reckon_51 rfl rfl (by decide) (lv' := [(3, .int (i3 + (1 : Int32))), (0, .ref r0), (1, .int i1), (2, .int i2)]) rfl ?_
        refine x_goto (tgt := 2) dX5_reckon_54 (by decide) ?_
        refine x_perm [1, 2, 3, 0] rfl ?_
        exact H
      · replace H := H.2 c
        refine x_lconst (v := (1 : Int64)) dX5_reckon_45 (by decide) ?_
        refine x_goto (tgt := 50) dX5_reckon_46 (by decide) ?_
        obtain ⟨h9, eh9, H⟩ := H
        refine x_lastore dX5_reckon_50 eh9 ?_
        refine x_iinc (q := 3) (v := (i3 + (1 : Int32))) dX5_reckon_51 rfl rfl (by decide) (lv' := [(3, .int (i3 + (1 : Int32))), (0, .ref r0), (1, .int i1), (2, .int i2)]) rfl ?_
        refine x_goto (tgt := 2) dX5_reckon_54 (by decide) ?_
        refine x_perm [1, 2, 3, 0] rfl ?_
        exact H
    · replace H := H.2 c
      refine x_iload_n dX5_reckon_20 rfl 2 rfl ?_
      refine x_i2l dX5_reckon_21 ?_
      refine x_goto (tgt := 32) dX5_reckon_22 (by decide) ?_
      obtain ⟨h10, eh10, H⟩ := H
      refine x_lastore dX5_reckon_32 eh10 ?_
      refine x_aload_n dX5_reckon_33 rfl 0 rfl ?_
      obtain ⟨q11, eq11, H⟩ := H
      refine x_getR fl_X5_21 dX5_reckon_34 eq11 ?_
      refine x_iload_n dX5_reckon_37 rfl 3 rfl ?_
      refine x_iload_n dX5_reckon_38 rfl 3 rfl ?_
      refine x_bipush (v := (11 : Int32)) dX5_reckon_39 (by decide) ?_
      refine x_irem dX5_reckon_41 (by decide) ?_
      refine x_if_ne (tgt := 49) dX5_reckon_42 (by decide) (fun c => ?_) (fun c => ?_)
      · replace H := H.1 c
        refine x_lconst (v := (0 : Int64)) dX5_reckon_49 (by decide) ?_
        obtain ⟨h12, eh12, H⟩ := H
        refine x_lastore dX5_reckon_50 eh12 ?_
        refine x_iinc (q := 3) (v := (i3 + (1 : Int32))) dX5_reckon_51 rfl rfl (by decide) (lv' := [(3, .int (i3 + (1 : Int32))), (0, .ref r0), (1, .int i1), (2, .int i2)]) rfl ?_
        refine x_goto (tgt := 2) dX5_reckon_54 (by decide) ?_
        refine x_perm [1, 2, 3, 0] rfl ?_
        exact H
      · replace H := H.2 c
        refine x_lconst (v := (1 : Int64)) dX5_reckon_45 (by decide) ?_
        refine x_goto (tgt := 50) dX5_reckon_46 (by decide) ?_
        obtain ⟨h13, eh13, H⟩ := H
        refine x_lastore dX5_reckon_50 eh13 ?_
        refine x_iinc (q := 3) (v := (i3 + (1 : Int32))) dX5_reckon_51 rfl rfl (by decide) (lv' := [(3, .int (i3 + (1 : Int32))), (0, .ref r0), (1, .int i1), (2, .int i2)]) rfl ?_
        refine x_goto (tgt := 2) dX5_reckon_54 (by decide) ?_
        refine x_perm [1, 2, 3, 0] rfl ?_
        exact H
set_option maxRecDepth 20000 in
theorem r_X5_reckon_66 {d : Nat} {P : Hp → Prop} {h : Hp} {r0 : Nat} {i1 : Int32} {i3 : Int32} (H : ((i1 < i3 → P h) ∧
  (¬ i1 < i3 → L_X5_reckon_74 d P h r0 i1 i3 (0 : Int32)))) : L_X5_reckon_66 d P h r0 i1 i3 := by
  show X (KM (none) (fun r h' => r = none ∧ P h')) RX5 cX5_reckon 9 (d + 1) h 66 [(0, .ref r0), (1, .int i1), (3, .int i3)] []
  refine x_iload_n dX5_reckon_66 rfl 2 rfl ?_
  refine x_iload_n dX5_reckon_67 rfl 1 rfl ?_
  refine x_icmp_gt (tgt := 310) dX5_reckon_68 (by decide) (fun c => ?_) (fun c => ?_)
  · replace H := H.1 c
    exact x_vret dX5_reckon_310 ⟨rfl, H⟩
  · replace H := H.2 c
    refine x_iconst (v := (0 : Int32)) dX5_reckon_71 (by decide) ?_
    refine x_istore dX5_reckon_72 (by decide) (lv' := [(4, .int (0 : Int32)), (0, .ref r0), (1, .int i1), (3, .int i3)]) rfl ?_
    refine x_perm [1, 2, 3, 0] rfl ?_
    exact H
set_option maxRecDepth 20000 in
theorem r_X5_reckon_74 {d : Nat} {P : Hp → Prop} {h : Hp} {r0 : Nat} {i1 : Int32} {i3 : Int32} {i4 : Int32} (H : ((i1 ≤ i4 → ∃ q1, gR h 5 r0 6 = some q1 ∧ ∃ h2, sJ h q1 i3 (0 : Int64) = some h2 ∧ L_X5_reckon_176 d P h2 r0 i1 i3 (0 : Int32)) ∧
  (¬ i1 ≤ i4 → L_X5_reckon_83 d P h r0 i1 i3 i4 (0 : Int32)))) : L_X5_reckon_74 d P h r0 i1 i3 i4 := by
  show X (KM (none) (fun r h' => r = none ∧ P h')) RX5 cX5_reckon 9 (d + 1) h 74 [(0, .ref r0), (1, .int i1), (3, .int i3), (4, .int i4)] []
  refine x_iload dX5_reckon_74 3 rfl ?_
  refine x_iload_n dX5_reckon_76 rfl 1 rfl ?_
  refine x_icmp_ge (tgt := 166) dX5_reckon_77 (by decide) (fun c => ?_) (fun c => ?_)
  · replace H := H.1 c
    refine x_aload_n dX5_reckon_166 rfl 0 rfl ?_
    obtain ⟨q1, eq1, H⟩ := H
    refine x_getR fl_X5_27 dX5_reckon_167 eq1 ?_
    refine x_iload_n dX5_reckon_170 rfl 2 rfl ?_
    refine x_lconst (v := (0 : Int64)) dX5_reckon_171 (by decide) ?_
    obtain ⟨h2, eh2, H⟩ := H
    refine x_lastore dX5_reckon_172 eh2 ?_
    refine x_iconst (v := (0 : Int32)) dX5_reckon_173 (by decide) ?_
    refine x_istore dX5_reckon_174 (by decide) (lv' := [(4, .int (0 : Int32)), (0, .ref r0), (1, .int i1), (3, .int i3)]) rfl ?_
    refine x_perm [1, 2, 3, 0] rfl ?_
    exact H
  · replace H := H.2 c
    refine x_iconst (v := (0 : Int32)) dX5_reckon_80 (by decide) ?_
    refine x_istore dX5_reckon_81 (by decide) (lv' := [(5, .int (0 : Int32)), (0, .ref r0), (1, .int i1), (3, .int i3), (4, .int i4)]) rfl ?_
    refine x_perm [1, 2, 3, 4, 0] rfl ?_
    exact H
set_option maxRecDepth 20000 in
theorem r_X5_reckon_83 {d : Nat} {P : Hp → Prop} {h : Hp} {r0 : Nat} {i1 : Int32} {i3 : Int32} {i4 : Int32} {i5 : Int32} (H : ((i1 ≤ i5 → L_X5_reckon_74 d P h r0 i1 i3 (i4 + (1 : Int32))) ∧
  (¬ i1 ≤ i5 → L_X5_reckon_95 d P h r0 i1 i3 i4 i5 (0 : Int64) (0 : Int32)))) : L_X5_reckon_83 d P h r0 i1 i3 i4 i5 := by
  show X (KM (none) (fun r h' => r = none ∧ P h')) RX5 cX5_reckon 9 (d + 1) h 83 [(0, .ref r0), (1, .int i1), (3, .int i3), (4, .int i4), (5, .int i5)] []
  refine x_iload dX5_reckon_83 4 rfl ?_
  refine x_iload_n dX5_reckon_85 rfl 1 rfl ?_
  refine x_icmp_ge (tgt := 160) dX5_reckon_86 (by decide) (fun c => ?_) (fun c => ?_)
  · replace H := H.1 c
    refine x_iinc (q := 3) (v := (i4 + (1 : Int32))) dX5_reckon_160 rfl rfl (by decide) (lv' := [(4, .int (i4 + (1 : Int32))), (0, .ref r0), (1, .int i1), (3, .int i3), (5, .int i5)]) rfl ?_
    refine x_goto (tgt := 74) dX5_reckon_163 (by decide) ?_
    refine x_perm [1, 2, 3, 0] rfl ?_
    exact H
  · replace H := H.2 c
    refine x_lconst (v := (0 : Int64)) dX5_reckon_89 (by decide) ?_
    refine x_lstore dX5_reckon_90 (by decide) (lv' := [(6, .long (0 : Int64)), (0, .ref r0), (1, .int i1), (3, .int i3), (4, .int i4), (5, .int i5)]) rfl ?_
    refine x_iconst (v := (0 : Int32)) dX5_reckon_92 (by decide) ?_
    refine x_istore dX5_reckon_93 (by decide) (lv' := [(8, .int (0 : Int32)), (6, .long (0 : Int64)), (0, .ref r0), (1, .int i1), (3, .int i3), (4, .int i4), (5, .int i5)]) rfl ?_
    refine x_perm [2, 3, 4, 5, 6, 1, 0] rfl ?_
    exact H
set_option maxRecDepth 20000 in
theorem r_X5_reckon_95 {d : Nat} {P : Hp → Prop} {h : Hp} {r0 : Nat} {i1 : Int32} {i3 : Int32} {i4 : Int32} {i5 : Int32} {l6 : Int64} {i8 : Int32} (H : ((i1 ≤ i8 → ∃ q1, gR h 5 r0 5 = some q1 ∧ ∃ h2, sJ h q1 (((10 : Int32) * i4) + i5) l6 = some h2 ∧ L_X5_reckon_83 d P h2 r0 i1 i3 i4 (i5 + (1 : Int32))) ∧
  (¬ i1 ≤ i8 → ∃ q3, gR h 5 r0 4 = some q3 ∧ ∃ x4, lJ h q3 (((10 : Int32) * i4) + i8) = some x4 ∧ ∃ q5, gR h 5 r0 3 = some q5 ∧ ∃ x6, lJ h q5 (((10 : Int32) * i8) + i5) = some x6 ∧ L_X5_reckon_95 d P h r0 i1 i3 i4 i5 (l6 + (x4 * x6)) (i8 + (1 : Int32))))) : L_X5_reckon_95 d P h r0 i1 i3 i4 i5 l6 i8 := by
  show X (KM (none) (fun r h' => r = none ∧ P h')) RX5 cX5_reckon 9 (d + 1) h 95 [(0, .ref r0), (1, .int i1), (3, .int i3), (4, .int i4), (5, .int i5), (6, .long l6), (8, .int i8)] []
  refine x_iload dX5_reckon_95 6 rfl ?_
  refine x_iload_n dX5_reckon_97 rfl 1 rfl ?_
  refine x_icmp_ge (tgt := 139) dX5_reckon_98 (by decide) (fun c => ?_) (fun c => ?_)
  · replace H := H.1 c
    refine x_aload_n dX5_reckon_139 rfl 0 rfl ?_
    obtain ⟨q1, eq1, H⟩ := H
    refine x_getR fl_X5_24 dX5_reckon_140 eq1 ?_
    refine x_bipush (v := (10 : Int32)) dX5_reckon_143 (by decide) ?_
    refine x_iload dX5_reckon_145 3 rfl ?_
    refine x_imul dX5_reckon_147 ?_
    refine x_iload dX5_reckon_148 4 rfl ?_
    refine x_iadd dX5_reckon_150 ?_
    refine x_lload dX5_reckon_151 5 rfl ?_
    obtain ⟨h2, eh2, H⟩ := H
    refine x_lastore dX5_reckon_153 eh2 ?_
    refine x_iinc (q := 4) (v := (i5 + (1 : Int32))) dX5_reckon_154 rfl rfl (by decide) (lv' := [(5, .int (i5 + (1 : Int32))), (0, .ref r0), (1, .int i1), (3, .int i3), (4, .int i4), (6, .long l6), (8, .int i8)]) rfl ?_
    refine x_goto (tgt := 83) dX5_reckon_157 (by decide) ?_
    refine x_perm [1, 2, 3, 4, 0] rfl ?_
    exact H
  · replace H := H.2 c
    refine x_lload dX5_reckon_101 5 rfl ?_
    refine x_aload_n dX5_reckon_103 rfl 0 rfl ?_
    obtain ⟨q3, eq3, H⟩ := H
    refine x_getR fl_X5_21 dX5_reckon_104 eq3 ?_
    refine x_bipush (v := (10 : Int32)) dX5_reckon_107 (by decide) ?_
    refine x_iload dX5_reckon_109 3 rfl ?_
    refine x_imul dX5_reckon_111 ?_
    refine x_iload dX5_reckon_112 6 rfl ?_
    refine x_iadd dX5_reckon_114 ?_
    obtain ⟨x4, ex4, H⟩ := H
    refine x_laload dX5_reckon_115 ex4 ?_
    refine x_aload_n dX5_reckon_116 rfl 0 rfl ?_
    obtain ⟨q5, eq5, H⟩ := H
    refine x_getR fl_X5_17 dX5_reckon_117 eq5 ?_
    refine x_bipush (v := (10 : Int32)) dX5_reckon_120 (by decide) ?_
    refine x_iload dX5_reckon_122 6 rfl ?_
    refine x_imul dX5_reckon_124 ?_
    refine x_iload dX5_reckon_125 4 rfl ?_
    refine x_iadd dX5_reckon_127 ?_
    obtain ⟨x6, ex6, H⟩ := H
    refine x_laload dX5_reckon_128 ex6 ?_
    refine x_lmul dX5_reckon_129 ?_
    refine x_ladd dX5_reckon_130 ?_
    refine x_lstore dX5_reckon_131 (by decide) (lv' := [(6, .long (l6 + (x4 * x6))), (0, .ref r0), (1, .int i1), (3, .int i3), (4, .int i4), (5, .int i5), (8, .int i8)]) rfl ?_
    refine x_iinc (q := 6) (v := (i8 + (1 : Int32))) dX5_reckon_133 rfl rfl (by decide) (lv' := [(8, .int (i8 + (1 : Int32))), (6, .long (l6 + (x4 * x6))), (0, .ref r0), (1, .int i1), (3, .int i3), (4, .int i4), (5, .int i5)]) rfl ?_
    refine x_goto (tgt := 95) dX5_reckon_136 (by decide) ?_
    refine x_perm [2, 3, 4, 5, 6, 1, 0] rfl ?_
    exact H
set_option maxRecDepth 20000 in
theorem r_X5_reckon_176 {d : Nat} {P : Hp → Prop} {h : Hp} {r0 : Nat} {i1 : Int32} {i3 : Int32} {i4 : Int32} (H : ((i1 ≤ i4 → L_X5_reckon_210 d P h r0 i1 i3 (0 : Int32)) ∧
  (¬ i1 ≤ i4 → ∃ q1, gR h 5 r0 6 = some q1 ∧ ∃ x2, lJ h q1 i3 = some x2 ∧ ∃ q3, gR h 5 r0 5 = some q3 ∧ ∃ x4, lJ h q3 ((11 : Int32) * i4) = some x4 ∧ ∃ h5, sJ h q1 i3 (x2 + x4) = some h5 ∧ L_X5_reckon_176 d P h5 r0 i1 i3 (i4 + (1 : Int32))))) : L_X5_reckon_176 d P h r0 i1 i3 i4 := by
  show X (KM (none) (fun r h' => r = none ∧ P h')) RX5 cX5_reckon 9 (d + 1) h 176 [(0, .ref r0), (1, .int i1), (3, .int i3), (4, .int i4)] []
  refine x_iload dX5_reckon_176 3 rfl ?_
  refine x_iload_n dX5_reckon_178 rfl 1 rfl ?_
  refine x_icmp_ge (tgt := 207) dX5_reckon_179 (by decide) (fun c => ?_) (fun c => ?_)
  · replace H := H.1 c
    refine x_iconst (v := (0 : Int32)) dX5_reckon_207 (by decide) ?_
    refine x_istore dX5_reckon_208 (by decide) (lv' := [(4, .int (0 : Int32)), (0, .ref r0), (1, .int i1), (3, .int i3)]) rfl ?_
    refine x_perm [1, 2, 3, 0] rfl ?_
    exact H
  · replace H := H.2 c
    refine x_aload_n dX5_reckon_182 rfl 0 rfl ?_
    obtain ⟨q1, eq1, H⟩ := H
    refine x_getR fl_X5_27 dX5_reckon_183 eq1 ?_
    refine x_iload_n dX5_reckon_186 rfl 2 rfl ?_
    refine x_dup2 dX5_reckon_187 rfl rfl ?_
    obtain ⟨x2, ex2, H⟩ := H
    refine x_laload dX5_reckon_188 ex2 ?_
    refine x_aload_n dX5_reckon_189 rfl 0 rfl ?_
    obtain ⟨q3, eq3, H⟩ := H
    refine x_getR fl_X5_24 dX5_reckon_190 eq3 ?_
    refine x_bipush (v := (11 : Int32)) dX5_reckon_193 (by decide) ?_
    refine x_iload dX5_reckon_195 3 rfl ?_
    refine x_imul dX5_reckon_197 ?_
    obtain ⟨x4, ex4, H⟩ := H
    refine x_laload dX5_reckon_198 ex4 ?_
    refine x_ladd dX5_reckon_199 ?_
    obtain ⟨h5, eh5, H⟩ := H
    refine x_lastore dX5_reckon_200 eh5 ?_
    refine x_iinc (q := 3) (v := (i4 + (1 : Int32))) dX5_reckon_201 rfl rfl (by decide) (lv' := [(4, .int (i4 + (1 : Int32))), (0, .ref r0), (1, .int i1), (3, .int i3)]) rfl ?_
    refine x_goto (tgt := 176) dX5_reckon_204 (by decide) ?_
    refine x_perm [1, 2, 3, 0] rfl ?_
    exact H
set_option maxRecDepth 20000 in
theorem r_X5_reckon_210 {d : Nat} {P : Hp → Prop} {h : Hp} {r0 : Nat} {i1 : Int32} {i3 : Int32} {i4 : Int32} (H : (((100 : Int32) ≤ i4 → L_X5_reckon_243 d P h r0 i1 i3 (0 : Int64) (1 : Int32)) ∧
  (¬ (100 : Int32) ≤ i4 → ∃ q1, gR h 5 r0 4 = some q1 ∧ ∃ q2, gR h 5 r0 5 = some q2 ∧ ∃ x3, lJ h q2 i4 = some x3 ∧ ∃ h4, sJ h q1 i4 x3 = some h4 ∧ L_X5_reckon_210 d P h4 r0 i1 i3 (i4 + (1 : Int32))))) : L_X5_reckon_210 d P h r0 i1 i3 i4 := by
  show X (KM (none) (fun r h' => r = none ∧ P h')) RX5 cX5_reckon 9 (d + 1) h 210 [(0, .ref r0), (1, .int i1), (3, .int i3), (4, .int i4)] []
  refine x_iload dX5_reckon_210 3 rfl ?_
  refine x_bipush (v := (100 : Int32)) dX5_reckon_212 (by decide) ?_
  refine x_icmp_ge (tgt := 237) dX5_reckon_214 (by decide) (fun c => ?_) (fun c => ?_)
  · replace H := H.1 c
    refine x_lconst (v := (0 : Int64)) dX5_reckon_237 (by decide) ?_
    refine x_lstore dX5_reckon_238 (by decide) (lv' := [(4, .long (0 : Int64)), (0, .ref r0), (1, .int i1), (3, .int i3)]) rfl ?_
    refine x_iconst (v := (1 : Int32)) dX5_reckon_240 (by decide) ?_
    refine x_istore dX5_reckon_241 (by decide) (lv' := [(6, .int (1 : Int32)), (4, .long (0 : Int64)), (0, .ref r0), (1, .int i1), (3, .int i3)]) rfl ?_
    refine x_perm [2, 3, 4, 1, 0] rfl ?_
    exact H
  · replace H := H.2 c
    refine x_aload_n dX5_reckon_217 rfl 0 rfl ?_
    obtain ⟨q1, eq1, H⟩ := H
    refine x_getR fl_X5_21 dX5_reckon_218 eq1 ?_
    refine x_iload dX5_reckon_221 3 rfl ?_
    refine x_aload_n dX5_reckon_223 rfl 0 rfl ?_
    obtain ⟨q2, eq2, H⟩ := H
    refine x_getR fl_X5_24 dX5_reckon_224 eq2 ?_
    refine x_iload dX5_reckon_227 3 rfl ?_
    obtain ⟨x3, ex3, H⟩ := H
    refine x_laload dX5_reckon_229 ex3 ?_
    obtain ⟨h4, eh4, H⟩ := H
    refine x_lastore dX5_reckon_230 eh4 ?_
    refine x_iinc (q := 3) (v := (i4 + (1 : Int32))) dX5_reckon_231 rfl rfl (by decide) (lv' := [(4, .int (i4 + (1 : Int32))), (0, .ref r0), (1, .int i1), (3, .int i3)]) rfl ?_
    refine x_goto (tgt := 210) dX5_reckon_234 (by decide) ?_
    refine x_perm [1, 2, 3, 0] rfl ?_
    exact H
set_option maxRecDepth 20000 in
theorem r_X5_reckon_243 {d : Nat} {P : Hp → Prop} {h : Hp} {r0 : Nat} {i1 : Int32} {i3 : Int32} {l4 : Int64} {i6 : Int32} (H : ((i3 < i6 → ∃ q1, gR h 5 r0 7 = some q1 ∧ ¬ i3.toInt64 = 0 ∧ (∃ h2, sJ h q1 i3 (l4 / i3.toInt64) = some h2 ∧ L_X5_reckon_66 d P h2 r0 i1 (i3 + (1 : Int32)))) ∧
  (¬ i3 < i6 → ((¬ (irem i6 (2 : Int32)) = (1 : Int32) → ∃ q3, gR h 5 r0 7 = some q3 ∧ ∃ x4, lJ h q3 (i3 - i6) = some x4 ∧ ∃ q5, gR h 5 r0 6 = some q5 ∧ ∃ x6, lJ h q5 i6 = some x6 ∧ L_X5_reckon_243 d P h r0 i1 i3 (l4 + (((-1 : Int64) * x4) * x6)) (i6 + (1 : Int32))) ∧
    ((irem i6 (2 : Int32)) = (1 : Int32) → ∃ q7, gR h 5 r0 7 = some q7 ∧ ∃ x8, lJ h q7 (i3 - i6) = some x8 ∧ ∃ q9, gR h 5 r0 6 = some q9 ∧ ∃ x10, lJ h q9 i6 = some x10 ∧ L_X5_reckon_243 d P h r0 i1 i3 (l4 + (((1 : Int64) * x8) * x10)) (i6 + (1 : Int32))))))) : L_X5_reckon_243 d P h r0 i1 i3 l4 i6 := by
  show X (KM (none) (fun r h' => r = none ∧ P h')) RX5 cX5_reckon 9 (d + 1) h 243 [(0, .ref r0), (1, .int i1), (3, .int i3), (4, .long l4), (6, .int i6)] []
  refine x_iload dX5_reckon_243 4 rfl ?_
  refine x_iload_n dX5_reckon_245 rfl 2 rfl ?_
  refine x_icmp_gt (tgt := 293) dX5_reckon_246 (by decide) (fun c => ?_) (fun c => ?_)
  · replace H := H.1 c
    refine x_aload_n dX5_reckon_293 rfl 0 rfl ?_
    obtain ⟨q1, eq1, H⟩ := H
    refine x_getR fl_X5_30 dX5_reckon_294 eq1 ?_
    refine x_iload_n dX5_reckon_297 rfl 2 rfl ?_
    refine x_lload dX5_reckon_298 3 rfl ?_
    refine x_iload_n dX5_reckon_300 rfl 2 rfl ?_
    refine x_i2l dX5_reckon_301 ?_
    obtain ⟨hne, H⟩ := H
    refine x_ldiv dX5_reckon_302 hne ?_
    obtain ⟨h2, eh2, H⟩ := H
    refine x_lastore dX5_reckon_303 eh2 ?_
    refine x_iinc (q := 2) (v := (i3 + (1 : Int32))) dX5_reckon_304 rfl rfl (by decide) (lv' := [(3, .int (i3 + (1 : Int32))), (0, .ref r0), (1, .int i1), (4, .long l4), (6, .int i6)]) rfl ?_
    refine x_goto (tgt := 66) dX5_reckon_307 (by decide) ?_
    refine x_perm [1, 2, 0] rfl ?_
    exact H
  · replace H := H.2 c
    refine x_lload dX5_reckon_249 3 rfl ?_
    refine x_iload dX5_reckon_251 4 rfl ?_
    refine x_iconst (v := (2 : Int32)) dX5_reckon_253 (by decide) ?_
    refine x_irem dX5_reckon_254 (by decide) ?_
    refine x_iconst (v := (1 : Int32)) dX5_reckon_255 (by decide) ?_
    refine x_icmp_ne (tgt := 263) dX5_reckon_256 (by decide) (fun c => ?_) (fun c => ?_)
    · replace H := H.1 c
      refine x_ldc2 (v := (-1 : Int64)) (lw_gm (i := 649) (by decide +kernel) rfl) dX5_reckon_263 ?_
      refine x_aload_n dX5_reckon_266 rfl 0 rfl ?_
      obtain ⟨q3, eq3, H⟩ := H
      refine x_getR fl_X5_30 dX5_reckon_267 eq3 ?_
      refine x_iload_n dX5_reckon_270 rfl 2 rfl ?_
      refine x_iload dX5_reckon_271 4 rfl ?_
      refine x_isub dX5_reckon_273 ?_
      obtain ⟨x4, ex4, H⟩ := H
      refine x_laload dX5_reckon_274 ex4 ?_
      refine x_lmul dX5_reckon_275 ?_
      refine x_aload_n dX5_reckon_276 rfl 0 rfl ?_
      obtain ⟨q5, eq5, H⟩ := H
      refine x_getR fl_X5_27 dX5_reckon_277 eq5 ?_
      refine x_iload dX5_reckon_280 4 rfl ?_
      obtain ⟨x6, ex6, H⟩ := H
      refine x_laload dX5_reckon_282 ex6 ?_
      refine x_lmul dX5_reckon_283 ?_
      refine x_ladd dX5_reckon_284 ?_
      refine x_lstore dX5_reckon_285 (by decide) (lv' := [(4, .long (l4 + (((-1 : Int64) * x4) * x6))), (0, .ref r0), (1, .int i1), (3, .int i3), (6, .int i6)]) rfl ?_
      refine x_iinc (q := 4) (v := (i6 + (1 : Int32))) dX5_reckon_287 rfl rfl (by decide) (lv' := [(6, .int (i6 + (1 : Int32))), (4, .long (l4 + (((-1 : Int64) * x4) * x6))), (0, .ref r0), (1, .int i1), (3, .int i3)]) rfl ?_
      refine x_goto (tgt := 243) dX5_reckon_290 (by decide) ?_
      refine x_perm [2, 3, 4, 1, 0] rfl ?_
      exact H
    · replace H := H.2 c
      refine x_lconst (v := (1 : Int64)) dX5_reckon_259 (by decide) ?_
      refine x_goto (tgt := 266) dX5_reckon_260 (by decide) ?_
      refine x_aload_n dX5_reckon_266 rfl 0 rfl ?_
      obtain ⟨q7, eq7, H⟩ := H
      refine x_getR fl_X5_30 dX5_reckon_267 eq7 ?_
      refine x_iload_n dX5_reckon_270 rfl 2 rfl ?_
      refine x_iload dX5_reckon_271 4 rfl ?_
      refine x_isub dX5_reckon_273 ?_
      obtain ⟨x8, ex8, H⟩ := H
      refine x_laload dX5_reckon_274 ex8 ?_
      refine x_lmul dX5_reckon_275 ?_
      refine x_aload_n dX5_reckon_276 rfl 0 rfl ?_
      obtain ⟨q9, eq9, H⟩ := H
      refine x_getR fl_X5_27 dX5_reckon_277 eq9 ?_
      refine x_iload dX5_reckon_280 4 rfl ?_
      obtain ⟨x10, ex10, H⟩ := H
      refine x_laload dX5_reckon_282 ex10 ?_
      refine x_lmul dX5_reckon_283 ?_
      refine x_ladd dX5_reckon_284 ?_
      refine x_lstore dX5_reckon_285 (by decide) (lv' := [(4, .long (l4 + (((1 : Int64) * x8) * x10))), (0, .ref r0), (1, .int i1), (3, .int i3), (6, .int i6)]) rfl ?_
      refine x_iinc (q := 4) (v := (i6 + (1 : Int32))) dX5_reckon_287 rfl rfl (by decide) (lv' := [(6, .int (i6 + (1 : Int32))), (4, .long (l4 + (((1 : Int64) * x8) * x10))), (0, .ref r0), (1, .int i1), (3, .int i3)]) rfl ?_
      refine x_goto (tgt := 243) dX5_reckon_290 (by decide) ?_
      refine x_perm [2, 3, 4, 1, 0] rfl ?_
      exact H
set_option maxRecDepth 20000 in
theorem e_X5_sums {d : Nat} {P : Int64 → Hp → Prop} {h : Hp} {r0 : Nat} {i1 : Int32} {i2 : Int32} (ho : r0 < 47 ∧ ∃ fs, h r0 = .inr (5, fs)) (H : CI M_X5_in d [.int i1, .int (0 : Int32), .int (1 : Int32)] h (fun x2 h1 => ((x2 = 0 → P (-9223372036854775806 : Int64) h1) ∧
  (¬ x2 = 0 → ∃ x3, gI h1 5 r0 0 = some x3 ∧ CI M_X5_in d [.int i2, .int (0 : Int32), .int x3] h1 (fun x5 h4 => ((¬ x5 = 0 → ∃ x6, gI h4 5 r0 0 = some x6 ∧ ((¬ i1 = 0 → ∃ x7, gI h4 5 r0 2 = some x7 ∧ CV M_X5_reckon d [.ref r0, .int x6, .int x7] h4 (fun h8 => ∃ q9, gR h8 5 r0 7 = some q9 ∧ ∃ x10, lJ h8 q9 i2 = some x10 ∧ P x10 h8)) ∧
      (i1 = 0 → CV M_X5_reckon d [.ref r0, .int x6, .int (0 : Int32)] h4 (fun h11 => ∃ q12, gR h11 5 r0 7 = some q12 ∧ ∃ x13, lJ h11 q12 i2 = some x13 ∧ P x13 h11)))) ∧
    (x5 = 0 → P (-9223372036854775806 : Int64) h4))))))) : CJ M_X5_sums (d + 1) [.ref r0, .int i1, .int i2] h P := by
  refine ⟨⟨r0, rfl, ho⟩, x_enter (by decide) (Nat.le_of_ble_eq_true rfl) ?_⟩
  show X (KM (some .long) (fun r h' => ∃ x, r = some (.long x) ∧ P x h')) RX5 cX5_sums 3 (d + 1) h 0 [(0, .ref r0), (1, .int i1), (2, .int i2)] []
  refine x_iload_n dX5_sums_0 rfl 1 rfl ?_
  refine x_iconst (v := (0 : Int32)) dX5_sums_1 (by decide) ?_
  refine x_iconst (v := (1 : Int32)) dX5_sums_2 (by decide) ?_
  refine x_sI sl_X5_61 dX5_sums_3 (As := [.int i1, .int (0 : Int32), .int (1 : Int32)]) rfl rfl (Nat.le_of_ble_eq_true rfl) (CI.mono H (fun x2 h1 H => ?_))
  refine x_if_eq (tgt := 21) dX5_sums_6 (by decide) (fun c => ?_) (fun c => ?_)
  · replace H := H.1 c
    refine x_ldc2 (v := (-9223372036854775806 : Int64)) (lw_gm (i := 644) (by decide +kernel) rfl) dX5_sums_21 ?_
    exact x_lret dX5_sums_24 ⟨_, rfl, H⟩
  · replace H := H.2 c
    refine x_iload_n dX5_sums_9 rfl 2 rfl ?_
    refine x_iconst (v := (0 : Int32)) dX5_sums_10 (by decide) ?_
    refine x_aload_n dX5_sums_11 rfl 0 rfl ?_
    obtain ⟨x3, ex3, H⟩ := H
    refine x_getI fl_X5_58 dX5_sums_12 ex3 ?_
    refine x_sI sl_X5_61 dX5_sums_15 (As := [.int i2, .int (0 : Int32), .int x3]) rfl rfl (Nat.le_of_ble_eq_true rfl) (CI.mono H (fun x5 h4 H => ?_))
    refine x_if_ne (tgt := 25) dX5_sums_18 (by decide) (fun c => ?_) (fun c => ?_)
    · replace H := H.1 c
      refine x_aload_n dX5_sums_25 rfl 0 rfl ?_
      refine x_aload_n dX5_sums_26 rfl 0 rfl ?_
      obtain ⟨x6, ex6, H⟩ := H
      refine x_getI fl_X5_58 dX5_sums_27 ex6 ?_
      refine x_iload_n dX5_sums_30 rfl 1 rfl ?_
      refine x_if_ne (tgt := 38) dX5_sums_31 (by decide) (fun c => ?_) (fun c => ?_)
      · replace H := H.1 c
        refine x_aload_n dX5_sums_38 rfl 0 rfl ?_
        obtain ⟨x7, ex7, H⟩ := H
        refine x_getI fl_X5_13 dX5_sums_39 ex7 ?_
        refine x_vV vl_X5_84 dX5_sums_42 (As := [.int x6, .int x7]) rfl rfl (Nat.le_of_ble_eq_true rfl) (CV.mono H (fun h8 H => ?_))
        refine x_aload_n dX5_sums_45 rfl 0 rfl ?_
        obtain ⟨q9, eq9, H⟩ := H
        refine x_getR fl_X5_30 dX5_sums_46 eq9 ?_
        refine x_iload_n dX5_sums_49 rfl 2 rfl ?_
        obtain ⟨x10, ex10, H⟩ := H
        refine x_laload dX5_sums_50 ex10 ?_
        exact x_lret dX5_sums_51 ⟨_, rfl, H⟩
      · replace H := H.2 c
        refine x_iconst (v := (0 : Int32)) dX5_sums_34 (by decide) ?_
        refine x_goto (tgt := 42) dX5_sums_35 (by decide) ?_
        refine x_vV vl_X5_84 dX5_sums_42 (As := [.int x6, .int (0 : Int32)]) rfl rfl (Nat.le_of_ble_eq_true rfl) (CV.mono H (fun h11 H => ?_))
        refine x_aload_n dX5_sums_45 rfl 0 rfl ?_
        obtain ⟨q12, eq12, H⟩ := H
        refine x_getR fl_X5_30 dX5_sums_46 eq12 ?_
        refine x_iload_n dX5_sums_49 rfl 2 rfl ?_
        obtain ⟨x13, ex13, H⟩ := H
        refine x_laload dX5_sums_50 ex13 ?_
        exact x_lret dX5_sums_51 ⟨_, rfl, H⟩
    · replace H := H.2 c
      refine x_ldc2 (v := (-9223372036854775806 : Int64)) (lw_gm (i := 644) (by decide +kernel) rfl) dX5_sums_21 ?_
      exact x_lret dX5_sums_24 ⟨_, rfl, H⟩
def L_X5_own_25 (d : Nat) (P : Int32 → Hp → Prop) (h : Hp) (r0 : Nat) (i1 : Int32) (i2 : Int32) : Prop := X (KM (some .int) (fun r h' => ∃ x, r = some (.int x) ∧ P x h')) RX5 cX5_own 6 (d + 1) h 25 [(0, .ref r0), (1, .int i1), (2, .int i2)] []
def L_X5_own_77 (d : Nat) (P : Int32 → Hp → Prop) (h : Hp) (r0 : Nat) (i1 : Int32) (i2 : Int32) (i3 : Int32) (i4 : Int32) : Prop := X (KM (some .int) (fun r h' => ∃ x, r = some (.int x) ∧ P x h')) RX5 cX5_own 6 (d + 1) h 77 [(0, .ref r0), (1, .int i1), (2, .int i2), (3, .int i3), (4, .int i4)] []
def L_X5_own_89 (d : Nat) (P : Int32 → Hp → Prop) (h : Hp) (r0 : Nat) (i1 : Int32) (i2 : Int32) (i3 : Int32) (i5 : Int32) : Prop := X (KM (some .int) (fun r h' => ∃ x, r = some (.int x) ∧ P x h')) RX5 cX5_own 6 (d + 1) h 89 [(0, .ref r0), (1, .int i1), (2, .int i2), (3, .int i3), (5, .int i5)] []
set_option maxRecDepth 20000 in
theorem e_X5_own {d : Nat} {P : Int32 → Hp → Prop} {h : Hp} {r0 : Nat} {i1 : Int32} (ho : r0 < 47 ∧ ∃ fs, h r0 = .inr (5, fs)) (H : CI M_X5_in d [.int i1, .int (-20 : Int32), .int (20 : Int32)] h (fun x2 h1 => ((¬ x2 = 0 → ∃ x3, gI h1 5 r0 0 = some x3 ∧ CV M_X5_reckon d [.ref r0, .int x3, .int (0 : Int32)] h1 (fun h4 => L_X5_own_25 d P h4 r0 i1 (0 : Int32))) ∧
  (x2 = 0 → P (-2 : Int32) h1)))) : CI M_X5_own (d + 1) [.ref r0, .int i1] h P := by
  refine ⟨⟨r0, rfl, ho⟩, x_enter (by decide) (Nat.le_of_ble_eq_true rfl) ?_⟩
  show X (KM (some .int) (fun r h' => ∃ x, r = some (.int x) ∧ P x h')) RX5 cX5_own 6 (d + 1) h 0 [(0, .ref r0), (1, .int i1)] []
  refine x_iload_n dX5_own_0 rfl 1 rfl ?_
  refine x_bipush (v := (-20 : Int32)) dX5_own_1 (by decide) ?_
  refine x_bipush (v := (20 : Int32)) dX5_own_3 (by decide) ?_
  refine x_sI sl_X5_61 dX5_own_5 (As := [.int i1, .int (-20 : Int32), .int (20 : Int32)]) rfl rfl (Nat.le_of_ble_eq_true rfl) (CI.mono H (fun x2 h1 H => ?_))
  refine x_if_ne (tgt := 14) dX5_own_8 (by decide) (fun c => ?_) (fun c => ?_)
  · replace H := H.1 c
    refine x_aload_n dX5_own_14 rfl 0 rfl ?_
    refine x_aload_n dX5_own_15 rfl 0 rfl ?_
    obtain ⟨x3, ex3, H⟩ := H
    refine x_getI fl_X5_58 dX5_own_16 ex3 ?_
    refine x_iconst (v := (0 : Int32)) dX5_own_19 (by decide) ?_
    refine x_vV vl_X5_84 dX5_own_20 (As := [.int x3, .int (0 : Int32)]) rfl rfl (Nat.le_of_ble_eq_true rfl) (CV.mono H (fun h4 H => ?_))
    refine x_iconst (v := (0 : Int32)) dX5_own_23 (by decide) ?_
    refine x_istore_n dX5_own_24 rfl (by decide) (lv' := [(2, .int (0 : Int32)), (0, .ref r0), (1, .int i1)]) rfl ?_
    refine x_perm [1, 2, 0] rfl ?_
    exact H
  · replace H := H.2 c
    refine x_bipush (v := (-2 : Int32)) dX5_own_11 (by decide) ?_
    exact x_iret dX5_own_13 ⟨_, rfl, H⟩
set_option maxRecDepth 20000 in
theorem r_X5_own_25 {d : Nat} {P : Int32 → Hp → Prop} {h : Hp} {r0 : Nat} {i1 : Int32} {i2 : Int32} (H : ∃ x1, gI h 5 r0 0 = some x1 ∧ ((x1 < i2 → ∃ x2, gI h 5 r0 0 = some x2 ∧ L_X5_own_77 d P h r0 i1 (0 : Int32) x2 (1 : Int32)) ∧
  (¬ x1 < i2 → ∃ q3, gR h 5 r0 8 = some q3 ∧ ((¬ (irem i2 (2 : Int32)) = 0 → ∃ q4, gR h 5 r0 7 = some q4 ∧ ∃ x5, lJ h q4 i2 = some x5 ∧ ∃ h6, sJ h q3 i2 (-x5) = some h6 ∧ L_X5_own_25 d P h6 r0 i1 (i2 + (1 : Int32))) ∧
    ((irem i2 (2 : Int32)) = 0 → ∃ q7, gR h 5 r0 7 = some q7 ∧ ∃ x8, lJ h q7 i2 = some x8 ∧ ∃ h9, sJ h q3 i2 x8 = some h9 ∧ L_X5_own_25 d P h9 r0 i1 (i2 + (1 : Int32))))))) : L_X5_own_25 d P h r0 i1 i2 := by
  show X (KM (some .int) (fun r h' => ∃ x, r = some (.int x) ∧ P x h')) RX5 cX5_own 6 (d + 1) h 25 [(0, .ref r0), (1, .int i1), (2, .int i2)] []
  refine x_iload_n dX5_own_25 rfl 2 rfl ?_
  refine x_aload_n dX5_own_26 rfl 0 rfl ?_
  obtain ⟨x1, ex1, H⟩ := H
  refine x_getI fl_X5_58 dX5_own_27 ex1 ?_
  refine x_icmp_gt (tgt := 67) dX5_own_30 (by decide) (fun c => ?_) (fun c => ?_)
  · replace H := H.1 c
    refine x_iconst (v := (0 : Int32)) dX5_own_67 (by decide) ?_
    refine x_istore_n dX5_own_68 rfl (by decide) (lv' := [(2, .int (0 : Int32)), (0, .ref r0), (1, .int i1)]) rfl ?_
    refine x_aload_n dX5_own_69 rfl 1 rfl ?_
    obtain ⟨x2, ex2, H⟩ := H
    refine x_getI fl_X5_58 dX5_own_70 ex2 ?_
    refine x_istore_n dX5_own_73 rfl (by decide) (lv' := [(3, .int x2), (2, .int (0 : Int32)), (0, .ref r0), (1, .int i1)]) rfl ?_
    refine x_iconst (v := (1 : Int32)) dX5_own_74 (by decide) ?_
    refine x_istore dX5_own_75 (by decide) (lv' := [(4, .int (1 : Int32)), (3, .int x2), (2, .int (0 : Int32)), (0, .ref r0), (1, .int i1)]) rfl ?_
    refine x_perm [3, 4, 2, 1, 0] rfl ?_
    exact H
  · replace H := H.2 c
    refine x_aload_n dX5_own_33 rfl 0 rfl ?_
    obtain ⟨q3, eq3, H⟩ := H
    refine x_getR fl_X5_33 dX5_own_34 eq3 ?_
    refine x_iload_n dX5_own_37 rfl 2 rfl ?_
    refine x_iload_n dX5_own_38 rfl 2 rfl ?_
    refine x_iconst (v := (2 : Int32)) dX5_own_39 (by decide) ?_
    refine x_irem dX5_own_40 (by decide) ?_
    refine x_if_ne (tgt := 53) dX5_own_41 (by decide) (fun c => ?_) (fun c => ?_)
    · replace H := H.1 c
      refine x_aload_n dX5_own_53 rfl 0 rfl ?_
      obtain ⟨q4, eq4, H⟩ := H
      refine x_getR fl_X5_30 dX5_own_54 eq4 ?_
      refine x_iload_n dX5_own_57 rfl 2 rfl ?_
      obtain ⟨x5, ex5, H⟩ := H
      refine x_laload dX5_own_58 ex5 ?_
      refine x_lneg dX5_own_59 ?_
      obtain ⟨h6, eh6, H⟩ := H
      refine x_lastore dX5_own_60 eh6 ?_
      refine x_iinc (q := 2) (v := (i2 + (1 : Int32))) dX5_own_61 rfl rfl (by decide) (lv' := [(2, .int (i2 + (1 : Int32))), (0, .ref r0), (1, .int i1)]) rfl ?_
      refine x_goto (tgt := 25) dX5_own_64 (by decide) ?_
      refine x_perm [1, 2, 0] rfl ?_
      exact H
    · replace H := H.2 c
      refine x_aload_n dX5_own_44 rfl 0 rfl ?_
      obtain ⟨q7, eq7, H⟩ := H
      refine x_getR fl_X5_30 dX5_own_45 eq7 ?_
      refine x_iload_n dX5_own_48 rfl 2 rfl ?_
      obtain ⟨x8, ex8, H⟩ := H
      refine x_laload dX5_own_49 ex8 ?_
      refine x_goto (tgt := 60) dX5_own_50 (by decide) ?_
      obtain ⟨h9, eh9, H⟩ := H
      refine x_lastore dX5_own_60 eh9 ?_
      refine x_iinc (q := 2) (v := (i2 + (1 : Int32))) dX5_own_61 rfl rfl (by decide) (lv' := [(2, .int (i2 + (1 : Int32))), (0, .ref r0), (1, .int i1)]) rfl ?_
      refine x_goto (tgt := 25) dX5_own_64 (by decide) ?_
      refine x_perm [1, 2, 0] rfl ?_
      exact H
set_option maxRecDepth 20000 in
theorem r_X5_own_77 {d : Nat} {P : Int32 → Hp → Prop} {h : Hp} {r0 : Nat} {i1 : Int32} {i2 : Int32} {i3 : Int32} {i4 : Int32} (H : ((i4 = 0 → P i2 h) ∧
  (¬ i4 = 0 → ((i3 ≤ 0 → P i2 h) ∧
    (¬ i3 ≤ 0 → L_X5_own_89 d P h r0 i1 i2 i3 (1 : Int32)))))) : L_X5_own_77 d P h r0 i1 i2 i3 i4 := by
  show X (KM (some .int) (fun r h' => ∃ x, r = some (.int x) ∧ P x h')) RX5 cX5_own 6 (d + 1) h 77 [(0, .ref r0), (1, .int i1), (2, .int i2), (3, .int i3), (4, .int i4)] []
  refine x_iload dX5_own_77 4 rfl ?_
  refine x_if_eq (tgt := 165) dX5_own_79 (by decide) (fun c => ?_) (fun c => ?_)
  · replace H := H.1 c
    refine x_iload_n dX5_own_165 rfl 2 rfl ?_
    exact x_iret dX5_own_166 ⟨_, rfl, H⟩
  · replace H := H.2 c
    refine x_iload_n dX5_own_82 rfl 3 rfl ?_
    refine x_if_le (tgt := 165) dX5_own_83 (by decide) (fun c => ?_) (fun c => ?_)
    · replace H := H.1 c
      refine x_iload_n dX5_own_165 rfl 2 rfl ?_
      exact x_iret dX5_own_166 ⟨_, rfl, H⟩
    · replace H := H.2 c
      refine x_iconst (v := (1 : Int32)) dX5_own_86 (by decide) ?_
      refine x_istore dX5_own_87 (by decide) (lv' := [(5, .int (1 : Int32)), (0, .ref r0), (1, .int i1), (2, .int i2), (3, .int i3), (4, .int i4)]) rfl ?_
      refine x_perm [1, 2, 3, 4, 0] rfl ?_
      exact H
set_option maxRecDepth 20000 in
theorem r_X5_own_89 {d : Nat} {P : Int32 → Hp → Prop} {h : Hp} {r0 : Nat} {i1 : Int32} {i2 : Int32} {i3 : Int32} {i5 : Int32} (H : ((i3 < i5 → ∃ q1, gR h 5 r0 8 = some q1 ∧ ∃ x2, lJ h q1 i3 = some x2 ∧ ((¬ (lcmp x2 (0 : Int64)) = 0 → (((0 : Int32) = 0 → L_X5_own_77 d P h r0 i1 (i2 + (0 : Int32)) (i3 + (-1 : Int32)) (0 : Int32)) ∧
      (¬ (0 : Int32) = 0 → L_X5_own_77 d P h r0 i1 (i2 + (1 : Int32)) (i3 + (-1 : Int32)) (0 : Int32)))) ∧
    ((lcmp x2 (0 : Int64)) = 0 → (((1 : Int32) = 0 → L_X5_own_77 d P h r0 i1 (i2 + (0 : Int32)) (i3 + (-1 : Int32)) (1 : Int32)) ∧
      (¬ (1 : Int32) = 0 → L_X5_own_77 d P h r0 i1 (i2 + (1 : Int32)) (i3 + (-1 : Int32)) (1 : Int32)))))) ∧
  (¬ i3 < i5 → ∃ q3, gR h 5 r0 8 = some q3 ∧ ∃ q4, gR h 5 r0 8 = some q4 ∧ ∃ x5, lJ h q4 i5 = some x5 ∧ ∃ q6, gR h 5 r0 8 = some q6 ∧ ∃ x7, lJ h q6 (i5 - (1 : Int32)) = some x7 ∧ ∃ h8, sJ h q3 i5 (x5 + (i1.toInt64 * x7)) = some h8 ∧ L_X5_own_89 d P h8 r0 i1 i2 i3 (i5 + (1 : Int32))))) : L_X5_own_89 d P h r0 i1 i2 i3 i5 := by
  show X (KM (some .int) (fun r h' => ∃ x, r = some (.int x) ∧ P x h')) RX5 cX5_own 6 (d + 1) h 89 [(0, .ref r0), (1, .int i1), (2, .int i2), (3, .int i3), (5, .int i5)] []
  refine x_iload dX5_own_89 4 rfl ?_
  refine x_iload_n dX5_own_91 rfl 3 rfl ?_
  refine x_icmp_gt (tgt := 128) dX5_own_92 (by decide) (fun c => ?_) (fun c => ?_)
  · replace H := H.1 c
    refine x_aload_n dX5_own_128 rfl 0 rfl ?_
    obtain ⟨q1, eq1, H⟩ := H
    refine x_getR fl_X5_33 dX5_own_129 eq1 ?_
    refine x_iload_n dX5_own_132 rfl 3 rfl ?_
    obtain ⟨x2, ex2, H⟩ := H
    refine x_laload dX5_own_133 ex2 ?_
    refine x_lconst (v := (0 : Int64)) dX5_own_134 (by decide) ?_
    refine x_lcmp dX5_own_135 ?_
    refine x_if_ne (tgt := 143) dX5_own_136 (by decide) (fun c => ?_) (fun c => ?_)
    · replace H := H.1 c
      refine x_iconst (v := (0 : Int32)) dX5_own_143 (by decide) ?_
      refine x_istore dX5_own_144 (by decide) (lv' := [(4, .int (0 : Int32)), (0, .ref r0), (1, .int i1), (2, .int i2), (3, .int i3), (5, .int i5)]) rfl ?_
      refine x_iload_n dX5_own_146 rfl 3 rfl ?_
      refine x_iload dX5_own_147 0 rfl ?_
      refine x_if_eq (tgt := 156) dX5_own_149 (by decide) (fun c => ?_) (fun c => ?_)
      · replace H := H.1 c
        refine x_iconst (v := (0 : Int32)) dX5_own_156 (by decide) ?_
        refine x_iadd dX5_own_157 ?_
        refine x_istore_n dX5_own_158 rfl (by decide) (lv' := [(2, .int (i2 + (0 : Int32))), (4, .int (0 : Int32)), (0, .ref r0), (1, .int i1), (3, .int i3), (5, .int i5)]) rfl ?_
        refine x_iinc (q := 4) (v := (i3 + (-1 : Int32))) dX5_own_159 rfl rfl (by decide) (lv' := [(3, .int (i3 + (-1 : Int32))), (2, .int (i2 + (0 : Int32))), (4, .int (0 : Int32)), (0, .ref r0), (1, .int i1), (5, .int i5)]) rfl ?_
        refine x_goto (tgt := 77) dX5_own_162 (by decide) ?_
        refine x_perm [3, 4, 1, 0, 2] rfl ?_
        exact H
      · replace H := H.2 c
        refine x_iconst (v := (1 : Int32)) dX5_own_152 (by decide) ?_
        refine x_goto (tgt := 157) dX5_own_153 (by decide) ?_
        refine x_iadd dX5_own_157 ?_
        refine x_istore_n dX5_own_158 rfl (by decide) (lv' := [(2, .int (i2 + (1 : Int32))), (4, .int (0 : Int32)), (0, .ref r0), (1, .int i1), (3, .int i3), (5, .int i5)]) rfl ?_
        refine x_iinc (q := 4) (v := (i3 + (-1 : Int32))) dX5_own_159 rfl rfl (by decide) (lv' := [(3, .int (i3 + (-1 : Int32))), (2, .int (i2 + (1 : Int32))), (4, .int (0 : Int32)), (0, .ref r0), (1, .int i1), (5, .int i5)]) rfl ?_
        refine x_goto (tgt := 77) dX5_own_162 (by decide) ?_
        refine x_perm [3, 4, 1, 0, 2] rfl ?_
        exact H
    · replace H := H.2 c
      refine x_iconst (v := (1 : Int32)) dX5_own_139 (by decide) ?_
      refine x_goto (tgt := 144) dX5_own_140 (by decide) ?_
      refine x_istore dX5_own_144 (by decide) (lv' := [(4, .int (1 : Int32)), (0, .ref r0), (1, .int i1), (2, .int i2), (3, .int i3), (5, .int i5)]) rfl ?_
      refine x_iload_n dX5_own_146 rfl 3 rfl ?_
      refine x_iload dX5_own_147 0 rfl ?_
      refine x_if_eq (tgt := 156) dX5_own_149 (by decide) (fun c => ?_) (fun c => ?_)
      · replace H := H.1 c
        refine x_iconst (v := (0 : Int32)) dX5_own_156 (by decide) ?_
        refine x_iadd dX5_own_157 ?_
        refine x_istore_n dX5_own_158 rfl (by decide) (lv' := [(2, .int (i2 + (0 : Int32))), (4, .int (1 : Int32)), (0, .ref r0), (1, .int i1), (3, .int i3), (5, .int i5)]) rfl ?_
        refine x_iinc (q := 4) (v := (i3 + (-1 : Int32))) dX5_own_159 rfl rfl (by decide) (lv' := [(3, .int (i3 + (-1 : Int32))), (2, .int (i2 + (0 : Int32))), (4, .int (1 : Int32)), (0, .ref r0), (1, .int i1), (5, .int i5)]) rfl ?_
        refine x_goto (tgt := 77) dX5_own_162 (by decide) ?_
        refine x_perm [3, 4, 1, 0, 2] rfl ?_
        exact H
      · replace H := H.2 c
        refine x_iconst (v := (1 : Int32)) dX5_own_152 (by decide) ?_
        refine x_goto (tgt := 157) dX5_own_153 (by decide) ?_
        refine x_iadd dX5_own_157 ?_
        refine x_istore_n dX5_own_158 rfl (by decide) (lv' := [(2, .int (i2 + (1 : Int32))), (4, .int (1 : Int32)), (0, .ref r0), (1, .int i1), (3, .int i3), (5, .int i5)]) rfl ?_
        refine x_iinc (q := 4) (v := (i3 + (-1 : Int32))) dX5_own_159 rfl rfl (by decide) (lv' := [(3, .int (i3 + (-1 : Int32))), (2, .int (i2 + (1 : Int32))), (4, .int (1 : Int32)), (0, .ref r0), (1, .int i1), (5, .int i5)]) rfl ?_
        refine x_goto (tgt := 77) dX5_own_162 (by decide) ?_
        refine x_perm [3, 4, 1, 0, 2] rfl ?_
        exact H
  · replace H := H.2 c
    refine x_aload_n dX5_own_95 rfl 0 rfl ?_
    obtain ⟨q3, eq3, H⟩ := H
    refine x_getR fl_X5_33 dX5_own_96 eq3 ?_
    refine x_iload dX5_own_99 4 rfl ?_
    refine x_aload_n dX5_own_101 rfl 0 rfl ?_
    obtain ⟨q4, eq4, H⟩ := H
    refine x_getR fl_X5_33 dX5_own_102 eq4 ?_
    refine x_iload dX5_own_105 4 rfl ?_
    obtain ⟨x5, ex5, H⟩ := H
    refine x_laload dX5_own_107 ex5 ?_
    refine x_iload_n dX5_own_108 rfl 1 rfl ?_
    refine x_i2l dX5_own_109 ?_
    refine x_aload_n dX5_own_110 rfl 0 rfl ?_
    obtain ⟨q6, eq6, H⟩ := H
    refine x_getR fl_X5_33 dX5_own_111 eq6 ?_
    refine x_iload dX5_own_114 4 rfl ?_
    refine x_iconst (v := (1 : Int32)) dX5_own_116 (by decide) ?_
    refine x_isub dX5_own_117 ?_
    obtain ⟨x7, ex7, H⟩ := H
    refine x_laload dX5_own_118 ex7 ?_
    refine x_lmul dX5_own_119 ?_
    refine x_ladd dX5_own_120 ?_
    obtain ⟨h8, eh8, H⟩ := H
    refine x_lastore dX5_own_121 eh8 ?_
    refine x_iinc (q := 4) (v := (i5 + (1 : Int32))) dX5_own_122 rfl rfl (by decide) (lv' := [(5, .int (i5 + (1 : Int32))), (0, .ref r0), (1, .int i1), (2, .int i2), (3, .int i3)]) rfl ?_
    refine x_goto (tgt := 89) dX5_own_125 (by decide) ?_
    refine x_perm [1, 2, 3, 4, 0] rfl ?_
    exact H
def L_X5_liesAll_2 (d : Nat) (P : Int32 → Hp → Prop) (h : Hp) (r0 : Nat) (i1 : Int32) (i2 : Int32) : Prop := X (KM (some .boolean) (fun r h' => ∃ x, r = some (.int x) ∧ P x h')) RX5 cX5_liesAll 3 (d + 1) h 2 [(0, .ref r0), (1, .int i1), (2, .int i2)] []
set_option maxRecDepth 20000 in
theorem e_X5_liesAll {d : Nat} {P : Int32 → Hp → Prop} {h : Hp} {r0 : Nat} {i1 : Int32} (ho : r0 < 47 ∧ ∃ fs, h r0 = .inr (5, fs)) (H : L_X5_liesAll_2 d P h r0 i1 (0 : Int32)) : CI M_X5_liesAll (d + 1) [.ref r0, .int i1] h P := by
  refine ⟨⟨r0, rfl, ho⟩, x_enter (by decide) (Nat.le_of_ble_eq_true rfl) ?_⟩
  show X (KM (some .boolean) (fun r h' => ∃ x, r = some (.int x) ∧ P x h')) RX5 cX5_liesAll 3 (d + 1) h 0 [(0, .ref r0), (1, .int i1)] []
  refine x_iconst (v := (0 : Int32)) dX5_liesAll_0 (by decide) ?_
  refine x_istore_n dX5_liesAll_1 rfl (by decide) (lv' := [(2, .int (0 : Int32)), (0, .ref r0), (1, .int i1)]) rfl ?_
  refine x_perm [1, 2, 0] rfl ?_
  exact H
set_option maxRecDepth 20000 in
theorem r_X5_liesAll_2 {d : Nat} {P : Int32 → Hp → Prop} {h : Hp} {r0 : Nat} {i1 : Int32} {i2 : Int32} (H : ((i1 < i2 → P (1 : Int32) h) ∧
  (¬ i1 < i2 → ∃ q1, gR h 5 r0 7 = some q1 ∧ ∃ x2, lJ h q1 i2 = some x2 ∧ ((0 ≤ (lcmp x2 (0 : Int64)) → L_X5_liesAll_2 d P h r0 i1 (i2 + (1 : Int32))) ∧
    (¬ 0 ≤ (lcmp x2 (0 : Int64)) → P (0 : Int32) h))))) : L_X5_liesAll_2 d P h r0 i1 i2 := by
  show X (KM (some .boolean) (fun r h' => ∃ x, r = some (.int x) ∧ P x h')) RX5 cX5_liesAll 3 (d + 1) h 2 [(0, .ref r0), (1, .int i1), (2, .int i2)] []
  refine x_iload_n dX5_liesAll_2 rfl 2 rfl ?_
  refine x_iload_n dX5_liesAll_3 rfl 1 rfl ?_
  refine x_icmp_gt (tgt := 26) dX5_liesAll_4 (by decide) (fun c => ?_) (fun c => ?_)
  · replace H := H.1 c
    refine x_iconst (v := (1 : Int32)) dX5_liesAll_26 (by decide) ?_
    exact x_zret dX5_liesAll_27 (by decide) ⟨_, rfl, H⟩
  · replace H := H.2 c
    refine x_aload_n dX5_liesAll_7 rfl 0 rfl ?_
    obtain ⟨q1, eq1, H⟩ := H
    refine x_getR fl_X5_30 dX5_liesAll_8 eq1 ?_
    refine x_iload_n dX5_liesAll_11 rfl 2 rfl ?_
    obtain ⟨x2, ex2, H⟩ := H
    refine x_laload dX5_liesAll_12 ex2 ?_
    refine x_lconst (v := (0 : Int64)) dX5_liesAll_13 (by decide) ?_
    refine x_lcmp dX5_liesAll_14 ?_
    refine x_if_ge (tgt := 20) dX5_liesAll_15 (by decide) (fun c => ?_) (fun c => ?_)
    · replace H := H.1 c
      refine x_iinc (q := 2) (v := (i2 + (1 : Int32))) dX5_liesAll_20 rfl rfl (by decide) (lv' := [(2, .int (i2 + (1 : Int32))), (0, .ref r0), (1, .int i1)]) rfl ?_
      refine x_goto (tgt := 2) dX5_liesAll_23 (by decide) ?_
      refine x_perm [1, 2, 0] rfl ?_
      exact H
    · replace H := H.2 c
      refine x_iconst (v := (0 : Int32)) dX5_liesAll_18 (by decide) ?_
      exact x_zret dX5_liesAll_19 (by decide) ⟨_, rfl, H⟩
def L_X5_rankOf_4 (d : Nat) (P : Int32 → Hp → Prop) (h : Hp) (r0 : Nat) (i1 : Int32) (i2 : Int32) (i3 : Int32) : Prop := X (KM (some .int) (fun r h' => ∃ x, r = some (.int x) ∧ P x h')) RX5 cX5_rankOf 4 (d + 1) h 4 [(0, .ref r0), (1, .int i1), (2, .int i2), (3, .int i3)] []
set_option maxRecDepth 20000 in
theorem e_X5_rankOf {d : Nat} {P : Int32 → Hp → Prop} {h : Hp} {r0 : Nat} {i1 : Int32} (ho : r0 < 47 ∧ ∃ fs, h r0 = .inr (5, fs)) (H : L_X5_rankOf_4 d P h r0 i1 (0 : Int32) (0 : Int32)) : CI M_X5_rankOf (d + 1) [.ref r0, .int i1] h P := by
  refine ⟨⟨r0, rfl, ho⟩, x_enter (by decide) (Nat.le_of_ble_eq_true rfl) ?_⟩
  show X (KM (some .int) (fun r h' => ∃ x, r = some (.int x) ∧ P x h')) RX5 cX5_rankOf 4 (d + 1) h 0 [(0, .ref r0), (1, .int i1)] []
  refine x_iconst (v := (0 : Int32)) dX5_rankOf_0 (by decide) ?_
  refine x_istore_n dX5_rankOf_1 rfl (by decide) (lv' := [(2, .int (0 : Int32)), (0, .ref r0), (1, .int i1)]) rfl ?_
  refine x_iconst (v := (0 : Int32)) dX5_rankOf_2 (by decide) ?_
  refine x_istore_n dX5_rankOf_3 rfl (by decide) (lv' := [(3, .int (0 : Int32)), (2, .int (0 : Int32)), (0, .ref r0), (1, .int i1)]) rfl ?_
  refine x_perm [2, 3, 1, 0] rfl ?_
  exact H
set_option maxRecDepth 20000 in
theorem r_X5_rankOf_4 {d : Nat} {P : Int32 → Hp → Prop} {h : Hp} {r0 : Nat} {i1 : Int32} {i2 : Int32} {i3 : Int32} (H : ((i1 < i3 → P i2 h) ∧
  (¬ i1 < i3 → ∃ q1, gR h 5 r0 7 = some q1 ∧ ∃ x2, lJ h q1 i3 = some x2 ∧ (((lcmp x2 (0 : Int64)) = 0 → L_X5_rankOf_4 d P h r0 i1 i2 (i3 + (1 : Int32))) ∧
    (¬ (lcmp x2 (0 : Int64)) = 0 → L_X5_rankOf_4 d P h r0 i1 i3 (i3 + (1 : Int32))))))) : L_X5_rankOf_4 d P h r0 i1 i2 i3 := by
  show X (KM (some .int) (fun r h' => ∃ x, r = some (.int x) ∧ P x h')) RX5 cX5_rankOf 4 (d + 1) h 4 [(0, .ref r0), (1, .int i1), (2, .int i2), (3, .int i3)] []
  refine x_iload_n dX5_rankOf_4 rfl 3 rfl ?_
  refine x_iload_n dX5_rankOf_5 rfl 1 rfl ?_
  refine x_icmp_gt (tgt := 32) dX5_rankOf_6 (by decide) (fun c => ?_) (fun c => ?_)
  · replace H := H.1 c
    refine x_iload_n dX5_rankOf_32 rfl 2 rfl ?_
    exact x_iret dX5_rankOf_33 ⟨_, rfl, H⟩
  · replace H := H.2 c
    refine x_aload_n dX5_rankOf_9 rfl 0 rfl ?_
    obtain ⟨q1, eq1, H⟩ := H
    refine x_getR fl_X5_30 dX5_rankOf_10 eq1 ?_
    refine x_iload_n dX5_rankOf_13 rfl 3 rfl ?_
    obtain ⟨x2, ex2, H⟩ := H
    refine x_laload dX5_rankOf_14 ex2 ?_
    refine x_lconst (v := (0 : Int64)) dX5_rankOf_15 (by decide) ?_
    refine x_lcmp dX5_rankOf_16 ?_
    refine x_if_eq (tgt := 24) dX5_rankOf_17 (by decide) (fun c => ?_) (fun c => ?_)
    · replace H := H.1 c
      refine x_iload_n dX5_rankOf_24 rfl 2 rfl ?_
      refine x_istore_n dX5_rankOf_25 rfl (by decide) (lv' := [(2, .int i2), (0, .ref r0), (1, .int i1), (3, .int i3)]) rfl ?_
      refine x_iinc (q := 3) (v := (i3 + (1 : Int32))) dX5_rankOf_26 rfl rfl (by decide) (lv' := [(3, .int (i3 + (1 : Int32))), (2, .int i2), (0, .ref r0), (1, .int i1)]) rfl ?_
      refine x_goto (tgt := 4) dX5_rankOf_29 (by decide) ?_
      refine x_perm [2, 3, 1, 0] rfl ?_
      exact H
    · replace H := H.2 c
      refine x_iload_n dX5_rankOf_20 rfl 3 rfl ?_
      refine x_goto (tgt := 25) dX5_rankOf_21 (by decide) ?_
      refine x_istore_n dX5_rankOf_25 rfl (by decide) (lv' := [(2, .int i3), (0, .ref r0), (1, .int i1), (3, .int i3)]) rfl ?_
      refine x_iinc (q := 3) (v := (i3 + (1 : Int32))) dX5_rankOf_26 rfl rfl (by decide) (lv' := [(3, .int (i3 + (1 : Int32))), (2, .int i3), (0, .ref r0), (1, .int i1)]) rfl ?_
      refine x_goto (tgt := 4) dX5_rankOf_29 (by decide) ?_
      refine x_perm [2, 3, 1, 0] rfl ?_
      exact H
set_option maxRecDepth 20000 in
theorem e_X5_lies {d : Nat} {P : Int32 → Hp → Prop} {h : Hp} {r0 : Nat} (ho : r0 < 47 ∧ ∃ fs, h r0 = .inr (5, fs)) (H : ∃ x1, gI h 5 r0 0 = some x1 ∧ ∃ x2, gI h 5 r0 2 = some x2 ∧ CV M_X5_reckon d [.ref r0, .int x1, .int x2] h (fun h3 => ∃ x4, gI h3 5 r0 0 = some x4 ∧ CI M_X5_liesAll d [.ref r0, .int x4] h3 (fun x6 h5 => ((x6 = 0 → P (0 : Int32) h5) ∧
  (¬ x6 = 0 → P (1 : Int32) h5))))) : CI M_X5_lies (d + 1) [.ref r0] h P := by
  refine ⟨⟨r0, rfl, ho⟩, x_enter (by decide) (Nat.le_of_ble_eq_true rfl) ?_⟩
  show X (KM (some .int) (fun r h' => ∃ x, r = some (.int x) ∧ P x h')) RX5 cX5_lies 1 (d + 1) h 0 [(0, .ref r0)] []
  refine x_aload_n dX5_lies_0 rfl 0 rfl ?_
  refine x_aload_n dX5_lies_1 rfl 0 rfl ?_
  obtain ⟨x1, ex1, H⟩ := H
  refine x_getI fl_X5_58 dX5_lies_2 ex1 ?_
  refine x_aload_n dX5_lies_5 rfl 0 rfl ?_
  obtain ⟨x2, ex2, H⟩ := H
  refine x_getI fl_X5_13 dX5_lies_6 ex2 ?_
  refine x_vV vl_X5_84 dX5_lies_9 (As := [.int x1, .int x2]) rfl rfl (Nat.le_of_ble_eq_true rfl) (CV.mono H (fun h3 H => ?_))
  refine x_aload_n dX5_lies_12 rfl 0 rfl ?_
  refine x_aload_n dX5_lies_13 rfl 0 rfl ?_
  obtain ⟨x4, ex4, H⟩ := H
  refine x_getI fl_X5_58 dX5_lies_14 ex4 ?_
  refine x_vI vl_X5_88 dX5_lies_17 (As := [.int x4]) rfl rfl (Nat.le_of_ble_eq_true rfl) (CI.mono H (fun x6 h5 H => ?_))
  refine x_if_eq (tgt := 27) dX5_lies_20 (by decide) (fun c => ?_) (fun c => ?_)
  · replace H := H.1 c
    refine x_iconst (v := (0 : Int32)) dX5_lies_27 (by decide) ?_
    exact x_iret dX5_lies_28 ⟨_, rfl, H⟩
  · replace H := H.2 c
    refine x_iconst (v := (1 : Int32)) dX5_lies_23 (by decide) ?_
    refine x_goto (tgt := 28) dX5_lies_24 (by decide) ?_
    exact x_iret dX5_lies_28 ⟨_, rfl, H⟩
set_option maxRecDepth 20000 in
theorem e_X5_rank {d : Nat} {P : Int32 → Hp → Prop} {h : Hp} {r0 : Nat} (ho : r0 < 47 ∧ ∃ fs, h r0 = .inr (5, fs)) (H : ∃ x1, gI h 5 r0 0 = some x1 ∧ ∃ x2, gI h 5 r0 2 = some x2 ∧ CV M_X5_reckon d [.ref r0, .int x1, .int x2] h (fun h3 => ∃ x4, gI h3 5 r0 0 = some x4 ∧ CI M_X5_rankOf d [.ref r0, .int x4] h3 (fun x6 h5 => P x6 h5))) : CI M_X5_rank (d + 1) [.ref r0] h P := by
  refine ⟨⟨r0, rfl, ho⟩, x_enter (by decide) (Nat.le_of_ble_eq_true rfl) ?_⟩
  show X (KM (some .int) (fun r h' => ∃ x, r = some (.int x) ∧ P x h')) RX5 cX5_rank 1 (d + 1) h 0 [(0, .ref r0)] []
  refine x_aload_n dX5_rank_0 rfl 0 rfl ?_
  refine x_aload_n dX5_rank_1 rfl 0 rfl ?_
  obtain ⟨x1, ex1, H⟩ := H
  refine x_getI fl_X5_58 dX5_rank_2 ex1 ?_
  refine x_aload_n dX5_rank_5 rfl 0 rfl ?_
  obtain ⟨x2, ex2, H⟩ := H
  refine x_getI fl_X5_13 dX5_rank_6 ex2 ?_
  refine x_vV vl_X5_84 dX5_rank_9 (As := [.int x1, .int x2]) rfl rfl (Nat.le_of_ble_eq_true rfl) (CV.mono H (fun h3 H => ?_))
  refine x_aload_n dX5_rank_12 rfl 0 rfl ?_
  refine x_aload_n dX5_rank_13 rfl 0 rfl ?_
  obtain ⟨x4, ex4, H⟩ := H
  refine x_getI fl_X5_58 dX5_rank_14 ex4 ?_
  refine x_vI vl_X5_91 dX5_rank_17 (As := [.int x4]) rfl rfl (Nat.le_of_ble_eq_true rfl) (CI.mono H (fun x6 h5 H => ?_))
  exact x_iret dX5_rank_20 ⟨_, rfl, H⟩
set_option maxRecDepth 20000 in
theorem e_X5_bound {d : Nat} {P : Int32 → Hp → Prop} {h : Hp} {r0 : Nat} {i1 : Int32} (ho : r0 < 47 ∧ ∃ fs, h r0 = .inr (5, fs)) (H : CI M_X5_in d [.int i1, .int (1 : Int32), .int (20 : Int32)] h (fun x2 h1 => ((¬ x2 = 0 → ∃ x3, gI h1 5 r0 2 = some x3 ∧ ∃ x4, gI h1 5 r0 2 = some x4 ∧ (((x3 * x4) ≤ i1 → ((((i1 * (i1 + (1 : Int32))) / (2 : Int32)) ≤ ((i1 * (i1 + (1 : Int32))) / (2 : Int32)) → P ((i1 * (i1 + (1 : Int32))) / (2 : Int32)) h1) ∧
      (¬ ((i1 * (i1 + (1 : Int32))) / (2 : Int32)) ≤ ((i1 * (i1 + (1 : Int32))) / (2 : Int32)) → P ((i1 * (i1 + (1 : Int32))) / (2 : Int32)) h1))) ∧
    (¬ (x3 * x4) ≤ i1 → ¬ ((x3 * x4) - i1) = 0 ∧ (((((i1 * (i1 + (1 : Int32))) / (2 : Int32)) ≤ ((i1 * ((x3 * x4) - (1 : Int32))) / ((x3 * x4) - i1)) → P ((i1 * (i1 + (1 : Int32))) / (2 : Int32)) h1) ∧
      (¬ ((i1 * (i1 + (1 : Int32))) / (2 : Int32)) ≤ ((i1 * ((x3 * x4) - (1 : Int32))) / ((x3 * x4) - i1)) → P ((i1 * ((x3 * x4) - (1 : Int32))) / ((x3 * x4) - i1)) h1)))))) ∧
  (x2 = 0 → P (-2 : Int32) h1)))) : CI M_X5_bound (d + 1) [.ref r0, .int i1] h P := by
  refine ⟨⟨r0, rfl, ho⟩, x_enter (by decide) (Nat.le_of_ble_eq_true rfl) ?_⟩
  show X (KM (some .int) (fun r h' => ∃ x, r = some (.int x) ∧ P x h')) RX5 cX5_bound 5 (d + 1) h 0 [(0, .ref r0), (1, .int i1)] []
  refine x_iload_n dX5_bound_0 rfl 1 rfl ?_
  refine x_iconst (v := (1 : Int32)) dX5_bound_1 (by decide) ?_
  refine x_bipush (v := (20 : Int32)) dX5_bound_2 (by decide) ?_
  refine x_sI sl_X5_61 dX5_bound_4 (As := [.int i1, .int (1 : Int32), .int (20 : Int32)]) rfl rfl (Nat.le_of_ble_eq_true rfl) (CI.mono H (fun x2 h1 H => ?_))
  refine x_if_ne (tgt := 13) dX5_bound_7 (by decide) (fun c => ?_) (fun c => ?_)
  · replace H := H.1 c
    refine x_aload_n dX5_bound_13 rfl 0 rfl ?_
    obtain ⟨x3, ex3, H⟩ := H
    refine x_getI fl_X5_13 dX5_bound_14 ex3 ?_
    refine x_aload_n dX5_bound_17 rfl 0 rfl ?_
    obtain ⟨x4, ex4, H⟩ := H
    refine x_getI fl_X5_13 dX5_bound_18 ex4 ?_
    refine x_imul dX5_bound_21 ?_
    refine x_istore_n dX5_bound_22 rfl (by decide) (lv' := [(2, .int (x3 * x4)), (0, .ref r0), (1, .int i1)]) rfl ?_
    refine x_iload_n dX5_bound_23 rfl 2 rfl ?_
    refine x_iload_n dX5_bound_24 rfl 2 rfl ?_
    refine x_iconst (v := (1 : Int32)) dX5_bound_25 (by decide) ?_
    refine x_iadd dX5_bound_26 ?_
    refine x_imul dX5_bound_27 ?_
    refine x_iconst (v := (2 : Int32)) dX5_bound_28 (by decide) ?_
    refine x_idiv dX5_bound_29 (by decide) ?_
    refine x_istore_n dX5_bound_30 rfl (by decide) (lv' := [(3, .int ((i1 * (i1 + (1 : Int32))) / (2 : Int32))), (2, .int (x3 * x4)), (0, .ref r0), (1, .int i1)]) rfl ?_
    refine x_iload_n dX5_bound_31 rfl 3 rfl ?_
    refine x_iload_n dX5_bound_32 rfl 1 rfl ?_
    refine x_icmp_ge (tgt := 48) dX5_bound_33 (by decide) (fun c => ?_) (fun c => ?_)
    · replace H := H.1 c
      refine x_iload_n dX5_bound_48 rfl 0 rfl ?_
      refine x_istore dX5_bound_49 (by decide) (lv' := [(4, .int ((i1 * (i1 + (1 : Int32))) / (2 : Int32))), (3, .int ((i1 * (i1 + (1 : Int32))) / (2 : Int32))), (2, .int (x3 * x4)), (0, .ref r0), (1, .int i1)]) rfl ?_
      refine x_iload dX5_bound_51 0 rfl ?_
      refine x_iload_n dX5_bound_53 rfl 1 rfl ?_
      refine x_icmp_ge (tgt := 62) dX5_bound_54 (by decide) (fun c => ?_) (fun c => ?_)
      · replace H := H.1 c
        refine x_iload_n dX5_bound_62 rfl 1 rfl ?_
        exact x_iret dX5_bound_63 ⟨_, rfl, H⟩
      · replace H := H.2 c
        refine x_iload dX5_bound_57 0 rfl ?_
        refine x_goto (tgt := 63) dX5_bound_59 (by decide) ?_
        exact x_iret dX5_bound_63 ⟨_, rfl, H⟩
    · replace H := H.2 c
      refine x_iload_n dX5_bound_36 rfl 3 rfl ?_
      refine x_iload_n dX5_bound_37 rfl 1 rfl ?_
      refine x_iconst (v := (1 : Int32)) dX5_bound_38 (by decide) ?_
      refine x_isub dX5_bound_39 ?_
      refine x_imul dX5_bound_40 ?_
      refine x_iload_n dX5_bound_41 rfl 1 rfl ?_
      refine x_iload_n dX5_bound_42 rfl 3 rfl ?_
      refine x_isub dX5_bound_43 ?_
      obtain ⟨hne, H⟩ := H
      refine x_idiv dX5_bound_44 hne ?_
      refine x_goto (tgt := 49) dX5_bound_45 (by decide) ?_
      refine x_istore dX5_bound_49 (by decide) (lv' := [(4, .int ((i1 * ((x3 * x4) - (1 : Int32))) / ((x3 * x4) - i1))), (3, .int ((i1 * (i1 + (1 : Int32))) / (2 : Int32))), (2, .int (x3 * x4)), (0, .ref r0), (1, .int i1)]) rfl ?_
      refine x_iload dX5_bound_51 0 rfl ?_
      refine x_iload_n dX5_bound_53 rfl 1 rfl ?_
      refine x_icmp_ge (tgt := 62) dX5_bound_54 (by decide) (fun c => ?_) (fun c => ?_)
      · replace H := H.1 c
        refine x_iload_n dX5_bound_62 rfl 1 rfl ?_
        exact x_iret dX5_bound_63 ⟨_, rfl, H⟩
      · replace H := H.2 c
        refine x_iload dX5_bound_57 0 rfl ?_
        refine x_goto (tgt := 63) dX5_bound_59 (by decide) ?_
        exact x_iret dX5_bound_63 ⟨_, rfl, H⟩
  · replace H := H.2 c
    refine x_bipush (v := (-2 : Int32)) dX5_bound_10 (by decide) ?_
    exact x_iret dX5_bound_12 ⟨_, rfl, H⟩
set_option maxRecDepth 20000 in
theorem e_X5_isRow {d : Nat} {P : Int32 → Hp → Prop} {h : Hp} {r0 : Nat} {i1 : Int32} (ho : r0 < 47 ∧ ∃ fs, h r0 = .inr (5, fs)) (H : ((i1 < 0 → P (0 : Int32) h) ∧
  (¬ i1 < 0 → ∃ x1, gI h 5 r0 0 = some x1 ∧ (((ishl (1 : Int32) x1) ≤ i1 → P (0 : Int32) h) ∧
    (¬ (ishl (1 : Int32) x1) ≤ i1 → ((¬ (irem i1 (2 : Int32)) = 0 → P (0 : Int32) h) ∧
      ((irem i1 (2 : Int32)) = 0 → P (1 : Int32) h))))))) : CI M_X5_isRow (d + 1) [.ref r0, .int i1] h P := by
  refine ⟨⟨r0, rfl, ho⟩, x_enter (by decide) (Nat.le_of_ble_eq_true rfl) ?_⟩
  show X (KM (some .boolean) (fun r h' => ∃ x, r = some (.int x) ∧ P x h')) RX5 cX5_isRow 2 (d + 1) h 0 [(0, .ref r0), (1, .int i1)] []
  refine x_iload_n dX5_isRow_0 rfl 1 rfl ?_
  refine x_if_lt (tgt := 24) dX5_isRow_1 (by decide) (fun c => ?_) (fun c => ?_)
  · replace H := H.1 c
    refine x_iconst (v := (0 : Int32)) dX5_isRow_24 (by decide) ?_
    exact x_zret dX5_isRow_25 (by decide) ⟨_, rfl, H⟩
  · replace H := H.2 c
    refine x_iload_n dX5_isRow_4 rfl 1 rfl ?_
    refine x_iconst (v := (1 : Int32)) dX5_isRow_5 (by decide) ?_
    refine x_aload_n dX5_isRow_6 rfl 0 rfl ?_
    obtain ⟨x1, ex1, H⟩ := H
    refine x_getI fl_X5_58 dX5_isRow_7 ex1 ?_
    refine x_ishl dX5_isRow_10 ?_
    refine x_icmp_ge (tgt := 24) dX5_isRow_11 (by decide) (fun c => ?_) (fun c => ?_)
    · replace H := H.1 c
      refine x_iconst (v := (0 : Int32)) dX5_isRow_24 (by decide) ?_
      exact x_zret dX5_isRow_25 (by decide) ⟨_, rfl, H⟩
    · replace H := H.2 c
      refine x_iload_n dX5_isRow_14 rfl 1 rfl ?_
      refine x_iconst (v := (2 : Int32)) dX5_isRow_15 (by decide) ?_
      refine x_irem dX5_isRow_16 (by decide) ?_
      refine x_if_ne (tgt := 24) dX5_isRow_17 (by decide) (fun c => ?_) (fun c => ?_)
      · replace H := H.1 c
        refine x_iconst (v := (0 : Int32)) dX5_isRow_24 (by decide) ?_
        exact x_zret dX5_isRow_25 (by decide) ⟨_, rfl, H⟩
      · replace H := H.2 c
        refine x_iconst (v := (1 : Int32)) dX5_isRow_20 (by decide) ?_
        refine x_goto (tgt := 25) dX5_isRow_21 (by decide) ?_
        exact x_zret dX5_isRow_25 (by decide) ⟨_, rfl, H⟩
def L_X5_fits_2 (d : Nat) (P : Int32 → Hp → Prop) (h : Hp) (r0 : Nat) (i1 : Int32) (i2 : Int32) (i3 : Int32) : Prop := X (KM (some .boolean) (fun r h' => ∃ x, r = some (.int x) ∧ P x h')) RX5 cX5_fits 4 (d + 1) h 2 [(0, .ref r0), (1, .int i1), (2, .int i2), (3, .int i3)] []
set_option maxRecDepth 20000 in
theorem e_X5_fits {d : Nat} {P : Int32 → Hp → Prop} {h : Hp} {r0 : Nat} {i1 : Int32} {i2 : Int32} (ho : r0 < 47 ∧ ∃ fs, h r0 = .inr (5, fs)) (H : L_X5_fits_2 d P h r0 i1 i2 (0 : Int32)) : CI M_X5_fits (d + 1) [.ref r0, .int i1, .int i2] h P := by
  refine ⟨⟨r0, rfl, ho⟩, x_enter (by decide) (Nat.le_of_ble_eq_true rfl) ?_⟩
  show X (KM (some .boolean) (fun r h' => ∃ x, r = some (.int x) ∧ P x h')) RX5 cX5_fits 4 (d + 1) h 0 [(0, .ref r0), (1, .int i1), (2, .int i2)] []
  refine x_iconst (v := (0 : Int32)) dX5_fits_0 (by decide) ?_
  refine x_istore_n dX5_fits_1 rfl (by decide) (lv' := [(3, .int (0 : Int32)), (0, .ref r0), (1, .int i1), (2, .int i2)]) rfl ?_
  refine x_perm [1, 2, 3, 0] rfl ?_
  exact H
set_option maxRecDepth 20000 in
theorem r_X5_fits_2 {d : Nat} {P : Int32 → Hp → Prop} {h : Hp} {r0 : Nat} {i1 : Int32} {i2 : Int32} {i3 : Int32} (H : ∃ x1, gI h 5 r0 0 = some x1 ∧ ((x1 ≤ i3 → ∃ x2, gI h 5 r0 0 = some x2 ∧ ∃ x3, gI h 5 r0 2 = some x3 ∧ CV M_X5_reckon d [.ref r0, .int (x2 + (1 : Int32)), .int x3] h (fun h4 => ∃ x5, gI h4 5 r0 0 = some x5 ∧ CI M_X5_liesAll d [.ref r0, .int (x5 + (1 : Int32))] h4 (fun x7 h6 => ((x7 = 0 → P (0 : Int32) h6) ∧
    (¬ x7 = 0 → ∃ x8, gI h6 5 r0 0 = some x8 ∧ CI M_X5_rankOf d [.ref r0, .int (x8 + (1 : Int32))] h6 (fun x10 h9 => ((i2 < x10 → P (0 : Int32) h9) ∧
      (¬ i2 < x10 → P (1 : Int32) h9)))))))) ∧
  (¬ x1 ≤ i3 → ∃ x11, gI h 5 r0 0 = some x11 ∧ ((¬ ((ishr i1 i3) &&& (1 : Int32)) = (1 : Int32) → CV M_X5_set d [.ref r0, .int x11, .int i3, .int (1 : Int32)] h (fun h12 => L_X5_fits_2 d P h12 r0 i1 i2 (i3 + (1 : Int32)))) ∧
    (((ishr i1 i3) &&& (1 : Int32)) = (1 : Int32) → CV M_X5_set d [.ref r0, .int x11, .int i3, .int (-1 : Int32)] h (fun h13 => L_X5_fits_2 d P h13 r0 i1 i2 (i3 + (1 : Int32)))))))) : L_X5_fits_2 d P h r0 i1 i2 i3 := by
  show X (KM (some .boolean) (fun r h' => ∃ x, r = some (.int x) ∧ P x h')) RX5 cX5_fits 4 (d + 1) h 2 [(0, .ref r0), (1, .int i1), (2, .int i2), (3, .int i3)] []
  refine x_iload_n dX5_fits_2 rfl 3 rfl ?_
  refine x_aload_n dX5_fits_3 rfl 0 rfl ?_
  obtain ⟨x1, ex1, H⟩ := H
  refine x_getI fl_X5_58 dX5_fits_4 ex1 ?_
  refine x_icmp_ge (tgt := 39) dX5_fits_7 (by decide) (fun c => ?_) (fun c => ?_)
  · replace H := H.1 c
    refine x_aload_n dX5_fits_39 rfl 0 rfl ?_
    refine x_aload_n dX5_fits_40 rfl 0 rfl ?_
    obtain ⟨x2, ex2, H⟩ := H
    refine x_getI fl_X5_58 dX5_fits_41 ex2 ?_
    refine x_iconst (v := (1 : Int32)) dX5_fits_44 (by decide) ?_
    refine x_iadd dX5_fits_45 ?_
    refine x_aload_n dX5_fits_46 rfl 0 rfl ?_
    obtain ⟨x3, ex3, H⟩ := H
    refine x_getI fl_X5_13 dX5_fits_47 ex3 ?_
    refine x_vV vl_X5_84 dX5_fits_50 (As := [.int (x2 + (1 : Int32)), .int x3]) rfl rfl (Nat.le_of_ble_eq_true rfl) (CV.mono H (fun h4 H => ?_))
    refine x_aload_n dX5_fits_53 rfl 0 rfl ?_
    refine x_aload_n dX5_fits_54 rfl 0 rfl ?_
    obtain ⟨x5, ex5, H⟩ := H
    refine x_getI fl_X5_58 dX5_fits_55 ex5 ?_
    refine x_iconst (v := (1 : Int32)) dX5_fits_58 (by decide) ?_
    refine x_iadd dX5_fits_59 ?_
    refine x_vI vl_X5_88 dX5_fits_60 (As := [.int (x5 + (1 : Int32))]) rfl rfl (Nat.le_of_ble_eq_true rfl) (CI.mono H (fun x7 h6 H => ?_))
    refine x_if_eq (tgt := 84) dX5_fits_63 (by decide) (fun c => ?_) (fun c => ?_)
    · replace H := H.1 c
      refine x_iconst (v := (0 : Int32)) dX5_fits_84 (by decide) ?_
      exact x_zret dX5_fits_85 (by decide) ⟨_, rfl, H⟩
    · replace H := H.2 c
      refine x_aload_n dX5_fits_66 rfl 0 rfl ?_
      refine x_aload_n dX5_fits_67 rfl 0 rfl ?_
      obtain ⟨x8, ex8, H⟩ := H
      refine x_getI fl_X5_58 dX5_fits_68 ex8 ?_
      refine x_iconst (v := (1 : Int32)) dX5_fits_71 (by decide) ?_
      refine x_iadd dX5_fits_72 ?_
      refine x_vI vl_X5_91 dX5_fits_73 (As := [.int (x8 + (1 : Int32))]) rfl rfl (Nat.le_of_ble_eq_true rfl) (CI.mono H (fun x10 h9 H => ?_))
      refine x_iload_n dX5_fits_76 rfl 2 rfl ?_
      refine x_icmp_gt (tgt := 84) dX5_fits_77 (by decide) (fun c => ?_) (fun c => ?_)
      · replace H := H.1 c
        refine x_iconst (v := (0 : Int32)) dX5_fits_84 (by decide) ?_
        exact x_zret dX5_fits_85 (by decide) ⟨_, rfl, H⟩
      · replace H := H.2 c
        refine x_iconst (v := (1 : Int32)) dX5_fits_80 (by decide) ?_
        refine x_goto (tgt := 85) dX5_fits_81 (by decide) ?_
        exact x_zret dX5_fits_85 (by decide) ⟨_, rfl, H⟩
  · replace H := H.2 c
    refine x_aload_n dX5_fits_10 rfl 0 rfl ?_
    refine x_aload_n dX5_fits_11 rfl 0 rfl ?_
    obtain ⟨x11, ex11, H⟩ := H
    refine x_getI fl_X5_58 dX5_fits_12 ex11 ?_
    refine x_iload_n dX5_fits_15 rfl 3 rfl ?_
    refine x_iload_n dX5_fits_16 rfl 1 rfl ?_
    refine x_iload_n dX5_fits_17 rfl 3 rfl ?_
    refine x_ishr dX5_fits_18 ?_
    refine x_iconst (v := (1 : Int32)) dX5_fits_19 (by decide) ?_
    refine x_iand dX5_fits_20 ?_
    refine x_iconst (v := (1 : Int32)) dX5_fits_21 (by decide) ?_
    refine x_icmp_ne (tgt := 29) dX5_fits_22 (by decide) (fun c => ?_) (fun c => ?_)
    · replace H := H.1 c
      refine x_iconst (v := (1 : Int32)) dX5_fits_29 (by decide) ?_
      refine x_vV vl_X5_65 dX5_fits_30 (As := [.int x11, .int i3, .int (1 : Int32)]) rfl rfl (Nat.le_of_ble_eq_true rfl) (CV.mono H (fun h12 H => ?_))
      refine x_iinc (q := 3) (v := (i3 + (1 : Int32))) dX5_fits_33 rfl rfl (by decide) (lv' := [(3, .int (i3 + (1 : Int32))), (0, .ref r0), (1, .int i1), (2, .int i2)]) rfl ?_
      refine x_goto (tgt := 2) dX5_fits_36 (by decide) ?_
      refine x_perm [1, 2, 3, 0] rfl ?_
      exact H
    · replace H := H.2 c
      refine x_iconst (v := (-1 : Int32)) dX5_fits_25 (by decide) ?_
      refine x_goto (tgt := 30) dX5_fits_26 (by decide) ?_
      refine x_vV vl_X5_65 dX5_fits_30 (As := [.int x11, .int i3, .int (-1 : Int32)]) rfl rfl (Nat.le_of_ble_eq_true rfl) (CV.mono H (fun h13 H => ?_))
      refine x_iinc (q := 3) (v := (i3 + (1 : Int32))) dX5_fits_33 rfl rfl (by decide) (lv' := [(3, .int (i3 + (1 : Int32))), (0, .ref r0), (1, .int i1), (2, .int i2)]) rfl ?_
      refine x_goto (tgt := 2) dX5_fits_36 (by decide) ?_
      refine x_perm [1, 2, 3, 0] rfl ?_
      exact H
set_option maxRecDepth 20000 in
theorem e_X5_goes {d : Nat} {P : Int32 → Hp → Prop} {h : Hp} {r0 : Nat} {i1 : Int32} {i2 : Int32} (ho : r0 < 47 ∧ ∃ fs, h r0 = .inr (5, fs)) (H : CI M_X5_in d [.int i2, .int (1 : Int32), .int (20 : Int32)] h (fun x2 h1 => ((x2 = 0 → P (-2 : Int32) h1) ∧
  (¬ x2 = 0 → CI M_X5_isRow d [.ref r0, .int i1] h1 (fun x4 h3 => ((¬ x4 = 0 → ∃ x5, gI h3 5 r0 0 = some x5 ∧ ((¬ x5 = 0 → ∃ x6, gI h3 5 r0 0 = some x6 ∧ ((¬ x6 = (10 : Int32) → CI M_X5_fits d [.ref r0, .int i1, .int i2] h3 (fun x8 h7 => ((x8 = 0 → P (0 : Int32) h7) ∧
          (¬ x8 = 0 → P (1 : Int32) h7)))) ∧
        (x6 = (10 : Int32) → P (-4 : Int32) h3))) ∧
      (x5 = 0 → P (-3 : Int32) h3))) ∧
    (x4 = 0 → P (-2 : Int32) h3))))))) : CI M_X5_goes (d + 1) [.ref r0, .int i1, .int i2] h P := by
  refine ⟨⟨r0, rfl, ho⟩, x_enter (by decide) (Nat.le_of_ble_eq_true rfl) ?_⟩
  show X (KM (some .int) (fun r h' => ∃ x, r = some (.int x) ∧ P x h')) RX5 cX5_goes 3 (d + 1) h 0 [(0, .ref r0), (1, .int i1), (2, .int i2)] []
  refine x_iload_n dX5_goes_0 rfl 2 rfl ?_
  refine x_iconst (v := (1 : Int32)) dX5_goes_1 (by decide) ?_
  refine x_bipush (v := (20 : Int32)) dX5_goes_2 (by decide) ?_
  refine x_sI sl_X5_61 dX5_goes_4 (As := [.int i2, .int (1 : Int32), .int (20 : Int32)]) rfl rfl (Nat.le_of_ble_eq_true rfl) (CI.mono H (fun x2 h1 H => ?_))
  refine x_if_eq (tgt := 18) dX5_goes_7 (by decide) (fun c => ?_) (fun c => ?_)
  · replace H := H.1 c
    refine x_bipush (v := (-2 : Int32)) dX5_goes_18 (by decide) ?_
    exact x_iret dX5_goes_20 ⟨_, rfl, H⟩
  · replace H := H.2 c
    refine x_aload_n dX5_goes_10 rfl 0 rfl ?_
    refine x_iload_n dX5_goes_11 rfl 1 rfl ?_
    refine x_vI vl_X5_95 dX5_goes_12 (As := [.int i1]) rfl rfl (Nat.le_of_ble_eq_true rfl) (CI.mono H (fun x4 h3 H => ?_))
    refine x_if_ne (tgt := 21) dX5_goes_15 (by decide) (fun c => ?_) (fun c => ?_)
    · replace H := H.1 c
      refine x_aload_n dX5_goes_21 rfl 0 rfl ?_
      obtain ⟨x5, ex5, H⟩ := H
      refine x_getI fl_X5_58 dX5_goes_22 ex5 ?_
      refine x_if_ne (tgt := 31) dX5_goes_25 (by decide) (fun c => ?_) (fun c => ?_)
      · replace H := H.1 c
        refine x_aload_n dX5_goes_31 rfl 0 rfl ?_
        obtain ⟨x6, ex6, H⟩ := H
        refine x_getI fl_X5_58 dX5_goes_32 ex6 ?_
        refine x_bipush (v := (10 : Int32)) dX5_goes_35 (by decide) ?_
        refine x_icmp_ne (tgt := 43) dX5_goes_37 (by decide) (fun c => ?_) (fun c => ?_)
        · replace H := H.1 c
          refine x_aload_n dX5_goes_43 rfl 0 rfl ?_
          refine x_iload_n dX5_goes_44 rfl 1 rfl ?_
          refine x_iload_n dX5_goes_45 rfl 2 rfl ?_
          refine x_vI vl_X5_98 dX5_goes_46 (As := [.int i1, .int i2]) rfl rfl (Nat.le_of_ble_eq_true rfl) (CI.mono H (fun x8 h7 H => ?_))
          refine x_if_eq (tgt := 56) dX5_goes_49 (by decide) (fun c => ?_) (fun c => ?_)
          · replace H := H.1 c
            refine x_iconst (v := (0 : Int32)) dX5_goes_56 (by decide) ?_
            exact x_iret dX5_goes_57 ⟨_, rfl, H⟩
          · replace H := H.2 c
            refine x_iconst (v := (1 : Int32)) dX5_goes_52 (by decide) ?_
            refine x_goto (tgt := 57) dX5_goes_53 (by decide) ?_
            exact x_iret dX5_goes_57 ⟨_, rfl, H⟩
        · replace H := H.2 c
          refine x_bipush (v := (-4 : Int32)) dX5_goes_40 (by decide) ?_
          exact x_iret dX5_goes_42 ⟨_, rfl, H⟩
      · replace H := H.2 c
        refine x_bipush (v := (-3 : Int32)) dX5_goes_28 (by decide) ?_
        exact x_iret dX5_goes_30 ⟨_, rfl, H⟩
    · replace H := H.2 c
      refine x_bipush (v := (-2 : Int32)) dX5_goes_18 (by decide) ?_
      exact x_iret dX5_goes_20 ⟨_, rfl, H⟩
def L_X5_ways_39 (d : Nat) (P : Int32 → Hp → Prop) (h : Hp) (r0 : Nat) (i1 : Int32) (i2 : Int32) (i3 : Int32) : Prop := X (KM (some .int) (fun r h' => ∃ x, r = some (.int x) ∧ P x h')) RX5 cX5_ways 4 (d + 1) h 39 [(0, .ref r0), (1, .int i1), (2, .int i2), (3, .int i3)] []
set_option maxRecDepth 20000 in
theorem e_X5_ways {d : Nat} {P : Int32 → Hp → Prop} {h : Hp} {r0 : Nat} {i1 : Int32} (ho : r0 < 47 ∧ ∃ fs, h r0 = .inr (5, fs)) (H : CI M_X5_in d [.int i1, .int (1 : Int32), .int (20 : Int32)] h (fun x2 h1 => ((¬ x2 = 0 → ∃ x3, gI h1 5 r0 0 = some x3 ∧ ((¬ x3 = 0 → ∃ x4, gI h1 5 r0 0 = some x4 ∧ ((¬ x4 = (10 : Int32) → L_X5_ways_39 d P h1 r0 i1 (0 : Int32) (0 : Int32)) ∧
      (x4 = (10 : Int32) → P (-4 : Int32) h1))) ∧
    (x3 = 0 → P (-3 : Int32) h1))) ∧
  (x2 = 0 → P (-2 : Int32) h1)))) : CI M_X5_ways (d + 1) [.ref r0, .int i1] h P := by
  refine ⟨⟨r0, rfl, ho⟩, x_enter (by decide) (Nat.le_of_ble_eq_true rfl) ?_⟩
  show X (KM (some .int) (fun r h' => ∃ x, r = some (.int x) ∧ P x h')) RX5 cX5_ways 4 (d + 1) h 0 [(0, .ref r0), (1, .int i1)] []
  refine x_iload_n dX5_ways_0 rfl 1 rfl ?_
  refine x_iconst (v := (1 : Int32)) dX5_ways_1 (by decide) ?_
  refine x_bipush (v := (20 : Int32)) dX5_ways_2 (by decide) ?_
  refine x_sI sl_X5_61 dX5_ways_4 (As := [.int i1, .int (1 : Int32), .int (20 : Int32)]) rfl rfl (Nat.le_of_ble_eq_true rfl) (CI.mono H (fun x2 h1 H => ?_))
  refine x_if_ne (tgt := 13) dX5_ways_7 (by decide) (fun c => ?_) (fun c => ?_)
  · replace H := H.1 c
    refine x_aload_n dX5_ways_13 rfl 0 rfl ?_
    obtain ⟨x3, ex3, H⟩ := H
    refine x_getI fl_X5_58 dX5_ways_14 ex3 ?_
    refine x_if_ne (tgt := 23) dX5_ways_17 (by decide) (fun c => ?_) (fun c => ?_)
    · replace H := H.1 c
      refine x_aload_n dX5_ways_23 rfl 0 rfl ?_
      obtain ⟨x4, ex4, H⟩ := H
      refine x_getI fl_X5_58 dX5_ways_24 ex4 ?_
      refine x_bipush (v := (10 : Int32)) dX5_ways_27 (by decide) ?_
      refine x_icmp_ne (tgt := 35) dX5_ways_29 (by decide) (fun c => ?_) (fun c => ?_)
      · replace H := H.1 c
        refine x_iconst (v := (0 : Int32)) dX5_ways_35 (by decide) ?_
        refine x_istore_n dX5_ways_36 rfl (by decide) (lv' := [(2, .int (0 : Int32)), (0, .ref r0), (1, .int i1)]) rfl ?_
        refine x_iconst (v := (0 : Int32)) dX5_ways_37 (by decide) ?_
        refine x_istore_n dX5_ways_38 rfl (by decide) (lv' := [(3, .int (0 : Int32)), (2, .int (0 : Int32)), (0, .ref r0), (1, .int i1)]) rfl ?_
        refine x_perm [2, 3, 1, 0] rfl ?_
        exact H
      · replace H := H.2 c
        refine x_bipush (v := (-4 : Int32)) dX5_ways_32 (by decide) ?_
        exact x_iret dX5_ways_34 ⟨_, rfl, H⟩
    · replace H := H.2 c
      refine x_bipush (v := (-3 : Int32)) dX5_ways_20 (by decide) ?_
      exact x_iret dX5_ways_22 ⟨_, rfl, H⟩
  · replace H := H.2 c
    refine x_bipush (v := (-2 : Int32)) dX5_ways_10 (by decide) ?_
    exact x_iret dX5_ways_12 ⟨_, rfl, H⟩
set_option maxRecDepth 20000 in
theorem r_X5_ways_39 {d : Nat} {P : Int32 → Hp → Prop} {h : Hp} {r0 : Nat} {i1 : Int32} {i2 : Int32} {i3 : Int32} (H : ∃ x1, gI h 5 r0 0 = some x1 ∧ (((ishl (1 : Int32) x1) ≤ i3 → P i2 h) ∧
  (¬ (ishl (1 : Int32) x1) ≤ i3 → CI M_X5_fits d [.ref r0, .int i3, .int i1] h (fun x3 h2 => ((x3 = 0 → L_X5_ways_39 d P h2 r0 i1 (i2 + (0 : Int32)) (i3 + (2 : Int32))) ∧
    (¬ x3 = 0 → L_X5_ways_39 d P h2 r0 i1 (i2 + (1 : Int32)) (i3 + (2 : Int32)))))))) : L_X5_ways_39 d P h r0 i1 i2 i3 := by
  show X (KM (some .int) (fun r h' => ∃ x, r = some (.int x) ∧ P x h')) RX5 cX5_ways 4 (d + 1) h 39 [(0, .ref r0), (1, .int i1), (2, .int i2), (3, .int i3)] []
  refine x_iload_n dX5_ways_39 rfl 3 rfl ?_
  refine x_iconst (v := (1 : Int32)) dX5_ways_40 (by decide) ?_
  refine x_aload_n dX5_ways_41 rfl 0 rfl ?_
  obtain ⟨x1, ex1, H⟩ := H
  refine x_getI fl_X5_58 dX5_ways_42 ex1 ?_
  refine x_ishl dX5_ways_45 ?_
  refine x_icmp_ge (tgt := 72) dX5_ways_46 (by decide) (fun c => ?_) (fun c => ?_)
  · replace H := H.1 c
    refine x_iload_n dX5_ways_72 rfl 2 rfl ?_
    exact x_iret dX5_ways_73 ⟨_, rfl, H⟩
  · replace H := H.2 c
    refine x_iload_n dX5_ways_49 rfl 2 rfl ?_
    refine x_aload_n dX5_ways_50 rfl 0 rfl ?_
    refine x_iload_n dX5_ways_51 rfl 3 rfl ?_
    refine x_iload_n dX5_ways_52 rfl 1 rfl ?_
    refine x_vI vl_X5_98 dX5_ways_53 (As := [.int i3, .int i1]) rfl rfl (Nat.le_of_ble_eq_true rfl) (CI.mono H (fun x3 h2 H => ?_))
    refine x_if_eq (tgt := 63) dX5_ways_56 (by decide) (fun c => ?_) (fun c => ?_)
    · replace H := H.1 c
      refine x_iconst (v := (0 : Int32)) dX5_ways_63 (by decide) ?_
      refine x_iadd dX5_ways_64 ?_
      refine x_istore_n dX5_ways_65 rfl (by decide) (lv' := [(2, .int (i2 + (0 : Int32))), (0, .ref r0), (1, .int i1), (3, .int i3)]) rfl ?_
      refine x_iinc (q := 3) (v := (i3 + (2 : Int32))) dX5_ways_66 rfl rfl (by decide) (lv' := [(3, .int (i3 + (2 : Int32))), (2, .int (i2 + (0 : Int32))), (0, .ref r0), (1, .int i1)]) rfl ?_
      refine x_goto (tgt := 39) dX5_ways_69 (by decide) ?_
      refine x_perm [2, 3, 1, 0] rfl ?_
      exact H
    · replace H := H.2 c
      refine x_iconst (v := (1 : Int32)) dX5_ways_59 (by decide) ?_
      refine x_goto (tgt := 64) dX5_ways_60 (by decide) ?_
      refine x_iadd dX5_ways_64 ?_
      refine x_istore_n dX5_ways_65 rfl (by decide) (lv' := [(2, .int (i2 + (1 : Int32))), (0, .ref r0), (1, .int i1), (3, .int i3)]) rfl ?_
      refine x_iinc (q := 3) (v := (i3 + (2 : Int32))) dX5_ways_66 rfl rfl (by decide) (lv' := [(3, .int (i3 + (2 : Int32))), (2, .int (i2 + (1 : Int32))), (0, .ref r0), (1, .int i1)]) rfl ?_
      refine x_goto (tgt := 39) dX5_ways_69 (by decide) ?_
      refine x_perm [2, 3, 1, 0] rfl ?_
      exact H
def L_X5_put_25 (d : Nat) (P : Int32 → Hp → Prop) (h : Hp) (r0 : Nat) (i1 : Int32) (i2 : Int32) : Prop := X (KM (some .int) (fun r h' => ∃ x, r = some (.int x) ∧ P x h')) RX5 cX5_put 3 (d + 1) h 25 [(0, .ref r0), (1, .int i1), (2, .int i2)] []
set_option maxRecDepth 20000 in
theorem e_X5_put {d : Nat} {P : Int32 → Hp → Prop} {h : Hp} {r0 : Nat} {i1 : Int32} (ho : r0 < 47 ∧ ∃ fs, h r0 = .inr (5, fs)) (H : CI M_X5_isRow d [.ref r0, .int i1] h (fun x2 h1 => ((¬ x2 = 0 → ∃ x3, gI h1 5 r0 0 = some x3 ∧ ((¬ x3 = (10 : Int32) → L_X5_put_25 d P h1 r0 i1 (0 : Int32)) ∧
    (x3 = (10 : Int32) → P (-4 : Int32) h1))) ∧
  (x2 = 0 → P (-2 : Int32) h1)))) : CI M_X5_put (d + 1) [.ref r0, .int i1] h P := by
  refine ⟨⟨r0, rfl, ho⟩, x_enter (by decide) (Nat.le_of_ble_eq_true rfl) ?_⟩
  show X (KM (some .int) (fun r h' => ∃ x, r = some (.int x) ∧ P x h')) RX5 cX5_put 3 (d + 1) h 0 [(0, .ref r0), (1, .int i1)] []
  refine x_aload_n dX5_put_0 rfl 0 rfl ?_
  refine x_iload_n dX5_put_1 rfl 1 rfl ?_
  refine x_vI vl_X5_95 dX5_put_2 (As := [.int i1]) rfl rfl (Nat.le_of_ble_eq_true rfl) (CI.mono H (fun x2 h1 H => ?_))
  refine x_if_ne (tgt := 11) dX5_put_5 (by decide) (fun c => ?_) (fun c => ?_)
  · replace H := H.1 c
    refine x_aload_n dX5_put_11 rfl 0 rfl ?_
    obtain ⟨x3, ex3, H⟩ := H
    refine x_getI fl_X5_58 dX5_put_12 ex3 ?_
    refine x_bipush (v := (10 : Int32)) dX5_put_15 (by decide) ?_
    refine x_icmp_ne (tgt := 23) dX5_put_17 (by decide) (fun c => ?_) (fun c => ?_)
    · replace H := H.1 c
      refine x_iconst (v := (0 : Int32)) dX5_put_23 (by decide) ?_
      refine x_istore_n dX5_put_24 rfl (by decide) (lv' := [(2, .int (0 : Int32)), (0, .ref r0), (1, .int i1)]) rfl ?_
      refine x_perm [1, 2, 0] rfl ?_
      exact H
    · replace H := H.2 c
      refine x_bipush (v := (-4 : Int32)) dX5_put_20 (by decide) ?_
      exact x_iret dX5_put_22 ⟨_, rfl, H⟩
  · replace H := H.2 c
    refine x_bipush (v := (-2 : Int32)) dX5_put_8 (by decide) ?_
    exact x_iret dX5_put_10 ⟨_, rfl, H⟩
set_option maxRecDepth 20000 in
theorem r_X5_put_25 {d : Nat} {P : Int32 → Hp → Prop} {h : Hp} {r0 : Nat} {i1 : Int32} {i2 : Int32} (H : ∃ x1, gI h 5 r0 0 = some x1 ∧ ((x1 ≤ i2 → ∃ x2, gI h 5 r0 0 = some x2 ∧ ∃ h3, sF h 5 r0 0 (.int (x2 + (1 : Int32))) = some h3 ∧ ∃ x4, gI h3 5 r0 0 = some x4 ∧ P (x4 - (1 : Int32)) h3) ∧
  (¬ x1 ≤ i2 → ∃ x5, gI h 5 r0 0 = some x5 ∧ ((¬ ((ishr i1 i2) &&& (1 : Int32)) = (1 : Int32) → CV M_X5_set d [.ref r0, .int x5, .int i2, .int (1 : Int32)] h (fun h6 => L_X5_put_25 d P h6 r0 i1 (i2 + (1 : Int32)))) ∧
    (((ishr i1 i2) &&& (1 : Int32)) = (1 : Int32) → CV M_X5_set d [.ref r0, .int x5, .int i2, .int (-1 : Int32)] h (fun h7 => L_X5_put_25 d P h7 r0 i1 (i2 + (1 : Int32)))))))) : L_X5_put_25 d P h r0 i1 i2 := by
  show X (KM (some .int) (fun r h' => ∃ x, r = some (.int x) ∧ P x h')) RX5 cX5_put 3 (d + 1) h 25 [(0, .ref r0), (1, .int i1), (2, .int i2)] []
  refine x_iload_n dX5_put_25 rfl 2 rfl ?_
  refine x_aload_n dX5_put_26 rfl 0 rfl ?_
  obtain ⟨x1, ex1, H⟩ := H
  refine x_getI fl_X5_58 dX5_put_27 ex1 ?_
  refine x_icmp_ge (tgt := 62) dX5_put_30 (by decide) (fun c => ?_) (fun c => ?_)
  · replace H := H.1 c
    refine x_aload_n dX5_put_62 rfl 0 rfl ?_
    refine x_dup dX5_put_63 rfl ?_
    obtain ⟨x2, ex2, H⟩ := H
    refine x_getI fl_X5_58 dX5_put_64 ex2 ?_
    refine x_iconst (v := (1 : Int32)) dX5_put_67 (by decide) ?_
    refine x_iadd dX5_put_68 ?_
    obtain ⟨h3, eh3, H⟩ := H
    refine x_putI fp_X5_58 rfl rfl dX5_put_69 eh3 ?_
    refine x_aload_n dX5_put_72 rfl 0 rfl ?_
    obtain ⟨x4, ex4, H⟩ := H
    refine x_getI fl_X5_58 dX5_put_73 ex4 ?_
    refine x_iconst (v := (1 : Int32)) dX5_put_76 (by decide) ?_
    refine x_isub dX5_put_77 ?_
    exact x_iret dX5_put_78 ⟨_, rfl, H⟩
  · replace H := H.2 c
    refine x_aload_n dX5_put_33 rfl 0 rfl ?_
    refine x_aload_n dX5_put_34 rfl 0 rfl ?_
    obtain ⟨x5, ex5, H⟩ := H
    refine x_getI fl_X5_58 dX5_put_35 ex5 ?_
    refine x_iload_n dX5_put_38 rfl 2 rfl ?_
    refine x_iload_n dX5_put_39 rfl 1 rfl ?_
    refine x_iload_n dX5_put_40 rfl 2 rfl ?_
    refine x_ishr dX5_put_41 ?_
    refine x_iconst (v := (1 : Int32)) dX5_put_42 (by decide) ?_
    refine x_iand dX5_put_43 ?_
    refine x_iconst (v := (1 : Int32)) dX5_put_44 (by decide) ?_
    refine x_icmp_ne (tgt := 52) dX5_put_45 (by decide) (fun c => ?_) (fun c => ?_)
    · replace H := H.1 c
      refine x_iconst (v := (1 : Int32)) dX5_put_52 (by decide) ?_
      refine x_vV vl_X5_65 dX5_put_53 (As := [.int x5, .int i2, .int (1 : Int32)]) rfl rfl (Nat.le_of_ble_eq_true rfl) (CV.mono H (fun h6 H => ?_))
      refine x_iinc (q := 2) (v := (i2 + (1 : Int32))) dX5_put_56 rfl rfl (by decide) (lv' := [(2, .int (i2 + (1 : Int32))), (0, .ref r0), (1, .int i1)]) rfl ?_
      refine x_goto (tgt := 25) dX5_put_59 (by decide) ?_
      refine x_perm [1, 2, 0] rfl ?_
      exact H
    · replace H := H.2 c
      refine x_iconst (v := (-1 : Int32)) dX5_put_48 (by decide) ?_
      refine x_goto (tgt := 53) dX5_put_49 (by decide) ?_
      refine x_vV vl_X5_65 dX5_put_53 (As := [.int x5, .int i2, .int (-1 : Int32)]) rfl rfl (Nat.le_of_ble_eq_true rfl) (CV.mono H (fun h7 H => ?_))
      refine x_iinc (q := 2) (v := (i2 + (1 : Int32))) dX5_put_56 rfl rfl (by decide) (lv' := [(2, .int (i2 + (1 : Int32))), (0, .ref r0), (1, .int i1)]) rfl ?_
      refine x_goto (tgt := 25) dX5_put_59 (by decide) ?_
      refine x_perm [1, 2, 0] rfl ?_
      exact H
def L_X5_grow_60 (d : Nat) (P : Int32 → Hp → Prop) (h : Hp) (r0 : Nat) (i1 : Int32) (i2 : Int32) : Prop := X (KM (some .int) (fun r h' => ∃ x, r = some (.int x) ∧ P x h')) RX5 cX5_grow 4 (d + 1) h 60 [(0, .ref r0), (1, .int i1), (2, .int i2)] []
def L_X5_grow_75 (d : Nat) (P : Int32 → Hp → Prop) (h : Hp) (r0 : Nat) (i1 : Int32) (i3 : Int32) : Prop := X (KM (some .int) (fun r h' => ∃ x, r = some (.int x) ∧ P x h')) RX5 cX5_grow 4 (d + 1) h 75 [(0, .ref r0), (1, .int i1), (3, .int i3)] []
set_option maxRecDepth 20000 in
theorem e_X5_grow {d : Nat} {P : Int32 → Hp → Prop} {h : Hp} {r0 : Nat} {i1 : Int32} (ho : r0 < 47 ∧ ∃ fs, h r0 = .inr (5, fs)) (H : CI M_X5_in d [.int i1, .int (1 : Int32), .int (20 : Int32)] h (fun x2 h1 => ((¬ x2 = 0 → ∃ x3, gI h1 5 r0 0 = some x3 ∧ ∃ x4, gI h1 5 r0 2 = some x4 ∧ CV M_X5_reckon d [.ref r0, .int x3, .int x4] h1 (fun h5 => ∃ x6, gI h5 5 r0 0 = some x6 ∧ ((x6 = 0 → P (-3 : Int32) h5) ∧
    (¬ x6 = 0 → ∃ x7, gI h5 5 r0 0 = some x7 ∧ CI M_X5_liesAll d [.ref r0, .int x7] h5 (fun x9 h8 => ((x9 = 0 → P (-3 : Int32) h8) ∧
      (¬ x9 = 0 → ∃ x10, gI h8 5 r0 0 = some x10 ∧ CI M_X5_rankOf d [.ref r0, .int x10] h8 (fun x12 h11 => ((x12 ≤ i1 → L_X5_grow_60 d P h11 r0 i1 (1 : Int32)) ∧
        (¬ x12 ≤ i1 → P (-3 : Int32) h11)))))))))) ∧
  (x2 = 0 → P (-2 : Int32) h1)))) : CI M_X5_grow (d + 1) [.ref r0, .int i1] h P := by
  refine ⟨⟨r0, rfl, ho⟩, x_enter (by decide) (Nat.le_of_ble_eq_true rfl) ?_⟩
  show X (KM (some .int) (fun r h' => ∃ x, r = some (.int x) ∧ P x h')) RX5 cX5_grow 4 (d + 1) h 0 [(0, .ref r0), (1, .int i1)] []
  refine x_iload_n dX5_grow_0 rfl 1 rfl ?_
  refine x_iconst (v := (1 : Int32)) dX5_grow_1 (by decide) ?_
  refine x_bipush (v := (20 : Int32)) dX5_grow_2 (by decide) ?_
  refine x_sI sl_X5_61 dX5_grow_4 (As := [.int i1, .int (1 : Int32), .int (20 : Int32)]) rfl rfl (Nat.le_of_ble_eq_true rfl) (CI.mono H (fun x2 h1 H => ?_))
  refine x_if_ne (tgt := 13) dX5_grow_7 (by decide) (fun c => ?_) (fun c => ?_)
  · replace H := H.1 c
    refine x_aload_n dX5_grow_13 rfl 0 rfl ?_
    refine x_aload_n dX5_grow_14 rfl 0 rfl ?_
    obtain ⟨x3, ex3, H⟩ := H
    refine x_getI fl_X5_58 dX5_grow_15 ex3 ?_
    refine x_aload_n dX5_grow_18 rfl 0 rfl ?_
    obtain ⟨x4, ex4, H⟩ := H
    refine x_getI fl_X5_13 dX5_grow_19 ex4 ?_
    refine x_vV vl_X5_84 dX5_grow_22 (As := [.int x3, .int x4]) rfl rfl (Nat.le_of_ble_eq_true rfl) (CV.mono H (fun h5 H => ?_))
    refine x_aload_n dX5_grow_25 rfl 0 rfl ?_
    obtain ⟨x6, ex6, H⟩ := H
    refine x_getI fl_X5_58 dX5_grow_26 ex6 ?_
    refine x_if_eq (tgt := 55) dX5_grow_29 (by decide) (fun c => ?_) (fun c => ?_)
    · replace H := H.1 c
      refine x_bipush (v := (-3 : Int32)) dX5_grow_55 (by decide) ?_
      exact x_iret dX5_grow_57 ⟨_, rfl, H⟩
    · replace H := H.2 c
      refine x_aload_n dX5_grow_32 rfl 0 rfl ?_
      refine x_aload_n dX5_grow_33 rfl 0 rfl ?_
      obtain ⟨x7, ex7, H⟩ := H
      refine x_getI fl_X5_58 dX5_grow_34 ex7 ?_
      refine x_vI vl_X5_88 dX5_grow_37 (As := [.int x7]) rfl rfl (Nat.le_of_ble_eq_true rfl) (CI.mono H (fun x9 h8 H => ?_))
      refine x_if_eq (tgt := 55) dX5_grow_40 (by decide) (fun c => ?_) (fun c => ?_)
      · replace H := H.1 c
        refine x_bipush (v := (-3 : Int32)) dX5_grow_55 (by decide) ?_
        exact x_iret dX5_grow_57 ⟨_, rfl, H⟩
      · replace H := H.2 c
        refine x_aload_n dX5_grow_43 rfl 0 rfl ?_
        refine x_aload_n dX5_grow_44 rfl 0 rfl ?_
        obtain ⟨x10, ex10, H⟩ := H
        refine x_getI fl_X5_58 dX5_grow_45 ex10 ?_
        refine x_vI vl_X5_91 dX5_grow_48 (As := [.int x10]) rfl rfl (Nat.le_of_ble_eq_true rfl) (CI.mono H (fun x12 h11 H => ?_))
        refine x_iload_n dX5_grow_51 rfl 1 rfl ?_
        refine x_icmp_le (tgt := 58) dX5_grow_52 (by decide) (fun c => ?_) (fun c => ?_)
        · replace H := H.1 c
          refine x_iconst (v := (1 : Int32)) dX5_grow_58 (by decide) ?_
          refine x_istore_n dX5_grow_59 rfl (by decide) (lv' := [(2, .int (1 : Int32)), (0, .ref r0), (1, .int i1)]) rfl ?_
          refine x_perm [1, 2, 0] rfl ?_
          exact H
        · replace H := H.2 c
          refine x_bipush (v := (-3 : Int32)) dX5_grow_55 (by decide) ?_
          exact x_iret dX5_grow_57 ⟨_, rfl, H⟩
  · replace H := H.2 c
    refine x_bipush (v := (-2 : Int32)) dX5_grow_10 (by decide) ?_
    exact x_iret dX5_grow_12 ⟨_, rfl, H⟩
set_option maxRecDepth 20000 in
theorem r_X5_grow_60 {d : Nat} {P : Int32 → Hp → Prop} {h : Hp} {r0 : Nat} {i1 : Int32} {i2 : Int32} (H : ((i2 = 0 → ∃ x1, gI h 5 r0 0 = some x1 ∧ P x1 h) ∧
  (¬ i2 = 0 → ∃ x2, gI h 5 r0 0 = some x2 ∧ (((10 : Int32) ≤ x2 → ∃ x3, gI h 5 r0 0 = some x3 ∧ P x3 h) ∧
    (¬ (10 : Int32) ≤ x2 → L_X5_grow_75 d P h r0 i1 (0 : Int32)))))) : L_X5_grow_60 d P h r0 i1 i2 := by
  show X (KM (some .int) (fun r h' => ∃ x, r = some (.int x) ∧ P x h')) RX5 cX5_grow 4 (d + 1) h 60 [(0, .ref r0), (1, .int i1), (2, .int i2)] []
  refine x_iload_n dX5_grow_60 rfl 2 rfl ?_
  refine x_if_eq (tgt := 137) dX5_grow_61 (by decide) (fun c => ?_) (fun c => ?_)
  · replace H := H.1 c
    refine x_aload_n dX5_grow_137 rfl 0 rfl ?_
    obtain ⟨x1, ex1, H⟩ := H
    refine x_getI fl_X5_58 dX5_grow_138 ex1 ?_
    exact x_iret dX5_grow_141 ⟨_, rfl, H⟩
  · replace H := H.2 c
    refine x_aload_n dX5_grow_64 rfl 0 rfl ?_
    obtain ⟨x2, ex2, H⟩ := H
    refine x_getI fl_X5_58 dX5_grow_65 ex2 ?_
    refine x_bipush (v := (10 : Int32)) dX5_grow_68 (by decide) ?_
    refine x_icmp_ge (tgt := 137) dX5_grow_70 (by decide) (fun c => ?_) (fun c => ?_)
    · replace H := H.1 c
      refine x_aload_n dX5_grow_137 rfl 0 rfl ?_
      obtain ⟨x3, ex3, H⟩ := H
      refine x_getI fl_X5_58 dX5_grow_138 ex3 ?_
      exact x_iret dX5_grow_141 ⟨_, rfl, H⟩
    · replace H := H.2 c
      refine x_iconst (v := (0 : Int32)) dX5_grow_73 (by decide) ?_
      refine x_istore_n dX5_grow_74 rfl (by decide) (lv' := [(3, .int (0 : Int32)), (0, .ref r0), (1, .int i1), (2, .int i2)]) rfl ?_
      refine x_perm [1, 2, 0] rfl ?_
      exact H
set_option maxRecDepth 20000 in
theorem r_X5_grow_75 {d : Nat} {P : Int32 → Hp → Prop} {h : Hp} {r0 : Nat} {i1 : Int32} {i3 : Int32} (H : ∃ x1, gI h 5 r0 0 = some x1 ∧ (((ishl (1 : Int32) x1) ≤ i3 → ∃ x2, gI h 5 r0 0 = some x2 ∧ (((ishl (1 : Int32) x2) ≤ i3 → ∃ x3, gI h 5 r0 0 = some x3 ∧ (((0 : Int32) = 0 → ∃ h4, sF h 5 r0 0 (.int (x3 + (0 : Int32))) = some h4 ∧ L_X5_grow_60 d P h4 r0 i1 (0 : Int32)) ∧
      (¬ (0 : Int32) = 0 → ∃ h5, sF h 5 r0 0 (.int (x3 + (1 : Int32))) = some h5 ∧ L_X5_grow_60 d P h5 r0 i1 (0 : Int32)))) ∧
    (¬ (ishl (1 : Int32) x2) ≤ i3 → ∃ x6, gI h 5 r0 0 = some x6 ∧ (((1 : Int32) = 0 → ∃ h7, sF h 5 r0 0 (.int (x6 + (0 : Int32))) = some h7 ∧ L_X5_grow_60 d P h7 r0 i1 (1 : Int32)) ∧
      (¬ (1 : Int32) = 0 → ∃ h8, sF h 5 r0 0 (.int (x6 + (1 : Int32))) = some h8 ∧ L_X5_grow_60 d P h8 r0 i1 (1 : Int32)))))) ∧
  (¬ (ishl (1 : Int32) x1) ≤ i3 → CI M_X5_fits d [.ref r0, .int i3, .int i1] h (fun x10 h9 => ((¬ x10 = 0 → ∃ x11, gI h9 5 r0 0 = some x11 ∧ (((ishl (1 : Int32) x11) ≤ i3 → ∃ x12, gI h9 5 r0 0 = some x12 ∧ (((0 : Int32) = 0 → ∃ h13, sF h9 5 r0 0 (.int (x12 + (0 : Int32))) = some h13 ∧ L_X5_grow_60 d P h13 r0 i1 (0 : Int32)) ∧
        (¬ (0 : Int32) = 0 → ∃ h14, sF h9 5 r0 0 (.int (x12 + (1 : Int32))) = some h14 ∧ L_X5_grow_60 d P h14 r0 i1 (0 : Int32)))) ∧
      (¬ (ishl (1 : Int32) x11) ≤ i3 → ∃ x15, gI h9 5 r0 0 = some x15 ∧ (((1 : Int32) = 0 → ∃ h16, sF h9 5 r0 0 (.int (x15 + (0 : Int32))) = some h16 ∧ L_X5_grow_60 d P h16 r0 i1 (1 : Int32)) ∧
        (¬ (1 : Int32) = 0 → ∃ h17, sF h9 5 r0 0 (.int (x15 + (1 : Int32))) = some h17 ∧ L_X5_grow_60 d P h17 r0 i1 (1 : Int32)))))) ∧
    (x10 = 0 → L_X5_grow_75 d P h9 r0 i1 (i3 + (2 : Int32)))))))) : L_X5_grow_75 d P h r0 i1 i3 := by
  show X (KM (some .int) (fun r h' => ∃ x, r = some (.int x) ∧ P x h')) RX5 cX5_grow 4 (d + 1) h 75 [(0, .ref r0), (1, .int i1), (3, .int i3)] []
  refine x_iload_n dX5_grow_75 rfl 2 rfl ?_
  refine x_iconst (v := (1 : Int32)) dX5_grow_76 (by decide) ?_
  refine x_aload_n dX5_grow_77 rfl 0 rfl ?_
  obtain ⟨x1, ex1, H⟩ := H
  refine x_getI fl_X5_58 dX5_grow_78 ex1 ?_
  refine x_ishl dX5_grow_81 ?_
  refine x_icmp_ge (tgt := 100) dX5_grow_82 (by decide) (fun c => ?_) (fun c => ?_)
  · replace H := H.1 c
    refine x_iload_n dX5_grow_100 rfl 2 rfl ?_
    refine x_iconst (v := (1 : Int32)) dX5_grow_101 (by decide) ?_
    refine x_aload_n dX5_grow_102 rfl 0 rfl ?_
    obtain ⟨x2, ex2, H⟩ := H
    refine x_getI fl_X5_58 dX5_grow_103 ex2 ?_
    refine x_ishl dX5_grow_106 ?_
    refine x_icmp_ge (tgt := 114) dX5_grow_107 (by decide) (fun c => ?_) (fun c => ?_)
    · replace H := H.1 c
      refine x_iconst (v := (0 : Int32)) dX5_grow_114 (by decide) ?_
      refine x_istore_n dX5_grow_115 rfl (by decide) (lv' := [(2, .int (0 : Int32)), (0, .ref r0), (1, .int i1), (3, .int i3)]) rfl ?_
      refine x_aload_n dX5_grow_116 rfl 1 rfl ?_
      refine x_dup dX5_grow_117 rfl ?_
      obtain ⟨x3, ex3, H⟩ := H
      refine x_getI fl_X5_58 dX5_grow_118 ex3 ?_
      refine x_iload_n dX5_grow_121 rfl 0 rfl ?_
      refine x_if_eq (tgt := 129) dX5_grow_122 (by decide) (fun c => ?_) (fun c => ?_)
      · replace H := H.1 c
        refine x_iconst (v := (0 : Int32)) dX5_grow_129 (by decide) ?_
        refine x_iadd dX5_grow_130 ?_
        obtain ⟨h4, eh4, H⟩ := H
        refine x_putI fp_X5_58 rfl rfl dX5_grow_131 eh4 ?_
        refine x_goto (tgt := 60) dX5_grow_134 (by decide) ?_
        refine x_perm [1, 2, 0] rfl ?_
        exact H
      · replace H := H.2 c
        refine x_iconst (v := (1 : Int32)) dX5_grow_125 (by decide) ?_
        refine x_goto (tgt := 130) dX5_grow_126 (by decide) ?_
        refine x_iadd dX5_grow_130 ?_
        obtain ⟨h5, eh5, H⟩ := H
        refine x_putI fp_X5_58 rfl rfl dX5_grow_131 eh5 ?_
        refine x_goto (tgt := 60) dX5_grow_134 (by decide) ?_
        refine x_perm [1, 2, 0] rfl ?_
        exact H
    · replace H := H.2 c
      refine x_iconst (v := (1 : Int32)) dX5_grow_110 (by decide) ?_
      refine x_goto (tgt := 115) dX5_grow_111 (by decide) ?_
      refine x_istore_n dX5_grow_115 rfl (by decide) (lv' := [(2, .int (1 : Int32)), (0, .ref r0), (1, .int i1), (3, .int i3)]) rfl ?_
      refine x_aload_n dX5_grow_116 rfl 1 rfl ?_
      refine x_dup dX5_grow_117 rfl ?_
      obtain ⟨x6, ex6, H⟩ := H
      refine x_getI fl_X5_58 dX5_grow_118 ex6 ?_
      refine x_iload_n dX5_grow_121 rfl 0 rfl ?_
      refine x_if_eq (tgt := 129) dX5_grow_122 (by decide) (fun c => ?_) (fun c => ?_)
      · replace H := H.1 c
        refine x_iconst (v := (0 : Int32)) dX5_grow_129 (by decide) ?_
        refine x_iadd dX5_grow_130 ?_
        obtain ⟨h7, eh7, H⟩ := H
        refine x_putI fp_X5_58 rfl rfl dX5_grow_131 eh7 ?_
        refine x_goto (tgt := 60) dX5_grow_134 (by decide) ?_
        refine x_perm [1, 2, 0] rfl ?_
        exact H
      · replace H := H.2 c
        refine x_iconst (v := (1 : Int32)) dX5_grow_125 (by decide) ?_
        refine x_goto (tgt := 130) dX5_grow_126 (by decide) ?_
        refine x_iadd dX5_grow_130 ?_
        obtain ⟨h8, eh8, H⟩ := H
        refine x_putI fp_X5_58 rfl rfl dX5_grow_131 eh8 ?_
        refine x_goto (tgt := 60) dX5_grow_134 (by decide) ?_
        refine x_perm [1, 2, 0] rfl ?_
        exact H
  · replace H := H.2 c
    refine x_aload_n dX5_grow_85 rfl 0 rfl ?_
    refine x_iload_n dX5_grow_86 rfl 2 rfl ?_
    refine x_iload_n dX5_grow_87 rfl 1 rfl ?_
    refine x_vI vl_X5_98 dX5_grow_88 (As := [.int i3, .int i1]) rfl rfl (Nat.le_of_ble_eq_true rfl) (CI.mono H (fun x10 h9 H => ?_))
    refine x_if_ne (tgt := 100) dX5_grow_91 (by decide) (fun c => ?_) (fun c => ?_)
    · replace H := H.1 c
      refine x_iload_n dX5_grow_100 rfl 2 rfl ?_
      refine x_iconst (v := (1 : Int32)) dX5_grow_101 (by decide) ?_
      refine x_aload_n dX5_grow_102 rfl 0 rfl ?_
      obtain ⟨x11, ex11, H⟩ := H
      refine x_getI fl_X5_58 dX5_grow_103 ex11 ?_
      refine x_ishl dX5_grow_106 ?_
      refine x_icmp_ge (tgt := 114) dX5_grow_107 (by decide) (fun c => ?_) (fun c => ?_)
      · replace H := H.1 c
        refine x_iconst (v := (0 : Int32)) dX5_grow_114 (by decide) ?_
        refine x_istore_n dX5_grow_115 rfl (by decide) (lv' := [(2, .int (0 : Int32)), (0, .ref r0), (1, .int i1), (3, .int i3)]) rfl ?_
        refine x_aload_n dX5_grow_116 rfl 1 rfl ?_
        refine x_dup dX5_grow_117 rfl ?_
        obtain ⟨x12, ex12, H⟩ := H
        refine x_getI fl_X5_58 dX5_grow_118 ex12 ?_
        refine x_iload_n dX5_grow_121 rfl 0 rfl ?_
        refine x_if_eq (tgt := 129) dX5_grow_122 (by decide) (fun c => ?_) (fun c => ?_)
        · replace H := H.1 c
          refine x_iconst (v := (0 : Int32)) dX5_grow_129 (by decide) ?_
          refine x_iadd dX5_grow_130 ?_
          obtain ⟨h13, eh13, H⟩ := H
          refine x_putI fp_X5_58 rfl rfl dX5_grow_131 eh13 ?_
          refine x_goto (tgt := 60) dX5_grow_134 (by decide) ?_
          refine x_perm [1, 2, 0] rfl ?_
          exact H
        · replace H := H.2 c
          refine x_iconst (v := (1 : Int32)) dX5_grow_125 (by decide) ?_
          refine x_goto (tgt := 130) dX5_grow_126 (by decide) ?_
          refine x_iadd dX5_grow_130 ?_
          obtain ⟨h14, eh14, H⟩ := H
          refine x_putI fp_X5_58 rfl rfl dX5_grow_131 eh14 ?_
          refine x_goto (tgt := 60) dX5_grow_134 (by decide) ?_
          refine x_perm [1, 2, 0] rfl ?_
          exact H
      · replace H := H.2 c
        refine x_iconst (v := (1 : Int32)) dX5_grow_110 (by decide) ?_
        refine x_goto (tgt := 115) dX5_grow_111 (by decide) ?_
        refine x_istore_n dX5_grow_115 rfl (by decide) (lv' := [(2, .int (1 : Int32)), (0, .ref r0), (1, .int i1), (3, .int i3)]) rfl ?_
        refine x_aload_n dX5_grow_116 rfl 1 rfl ?_
        refine x_dup dX5_grow_117 rfl ?_
        obtain ⟨x15, ex15, H⟩ := H
        refine x_getI fl_X5_58 dX5_grow_118 ex15 ?_
        refine x_iload_n dX5_grow_121 rfl 0 rfl ?_
        refine x_if_eq (tgt := 129) dX5_grow_122 (by decide) (fun c => ?_) (fun c => ?_)
        · replace H := H.1 c
          refine x_iconst (v := (0 : Int32)) dX5_grow_129 (by decide) ?_
          refine x_iadd dX5_grow_130 ?_
          obtain ⟨h16, eh16, H⟩ := H
          refine x_putI fp_X5_58 rfl rfl dX5_grow_131 eh16 ?_
          refine x_goto (tgt := 60) dX5_grow_134 (by decide) ?_
          refine x_perm [1, 2, 0] rfl ?_
          exact H
        · replace H := H.2 c
          refine x_iconst (v := (1 : Int32)) dX5_grow_125 (by decide) ?_
          refine x_goto (tgt := 130) dX5_grow_126 (by decide) ?_
          refine x_iadd dX5_grow_130 ?_
          obtain ⟨h17, eh17, H⟩ := H
          refine x_putI fp_X5_58 rfl rfl dX5_grow_131 eh17 ?_
          refine x_goto (tgt := 60) dX5_grow_134 (by decide) ?_
          refine x_perm [1, 2, 0] rfl ?_
          exact H
    · replace H := H.2 c
      refine x_iinc (q := 2) (v := (i3 + (2 : Int32))) dX5_grow_94 rfl rfl (by decide) (lv' := [(3, .int (i3 + (2 : Int32))), (0, .ref r0), (1, .int i1)]) rfl ?_
      refine x_goto (tgt := 75) dX5_grow_97 (by decide) ?_
      refine x_perm [1, 2, 0] rfl ?_
      exact H
set_option maxRecDepth 20000 in
theorem e_X5_signBy {d : Nat} {P : Int32 → Hp → Prop} {h : Hp} {r0 : Nat} {i1 : Int32} {i2 : Int32} (ho : r0 < 47 ∧ ∃ fs, h r0 = .inr (5, fs)) (H : ∃ q1, gR h 5 r0 9 = some q1 ∧ ∃ x2, lI h q1 i1 = some x2 ∧ ∃ q3, gR h 5 r0 9 = some q3 ∧ ∃ x4, lI h q3 i2 = some x4 ∧ ∃ q5, gR h 5 r0 9 = some q5 ∧ ∃ x6, lI h q5 (0 : Int32) = some x6 ∧ ∃ q7, gR h 5 r0 1 = some q7 ∧ ∃ x8, lI h q7 (((10 : Int32) * x2) + x4) = some x8 ∧ ∃ q9, gR h 5 r0 1 = some q9 ∧ ∃ x10, lI h q9 (((10 : Int32) * x6) + x2) = some x10 ∧ ∃ q11, gR h 5 r0 1 = some q11 ∧ ∃ x12, lI h q11 (((10 : Int32) * x6) + x4) = some x12 ∧ P ((x8 * x10) * x12) h) : CI M_X5_signBy (d + 1) [.ref r0, .int i1, .int i2] h P := by
  refine ⟨⟨r0, rfl, ho⟩, x_enter (by decide) (Nat.le_of_ble_eq_true rfl) ?_⟩
  show X (KM (some .int) (fun r h' => ∃ x, r = some (.int x) ∧ P x h')) RX5 cX5_signBy 6 (d + 1) h 0 [(0, .ref r0), (1, .int i1), (2, .int i2)] []
  refine x_aload_n dX5_signBy_0 rfl 0 rfl ?_
  obtain ⟨q1, eq1, H⟩ := H
  refine x_getR fl_X5_36 dX5_signBy_1 eq1 ?_
  refine x_iload_n dX5_signBy_4 rfl 1 rfl ?_
  obtain ⟨x2, ex2, H⟩ := H
  refine x_iaload dX5_signBy_5 ex2 ?_
  refine x_istore_n dX5_signBy_6 rfl (by decide) (lv' := [(3, .int x2), (0, .ref r0), (1, .int i1), (2, .int i2)]) rfl ?_
  refine x_aload_n dX5_signBy_7 rfl 1 rfl ?_
  obtain ⟨q3, eq3, H⟩ := H
  refine x_getR fl_X5_36 dX5_signBy_8 eq3 ?_
  refine x_iload_n dX5_signBy_11 rfl 3 rfl ?_
  obtain ⟨x4, ex4, H⟩ := H
  refine x_iaload dX5_signBy_12 ex4 ?_
  refine x_istore dX5_signBy_13 (by decide) (lv' := [(4, .int x4), (3, .int x2), (0, .ref r0), (1, .int i1), (2, .int i2)]) rfl ?_
  refine x_aload_n dX5_signBy_15 rfl 2 rfl ?_
  obtain ⟨q5, eq5, H⟩ := H
  refine x_getR fl_X5_36 dX5_signBy_16 eq5 ?_
  refine x_iconst (v := (0 : Int32)) dX5_signBy_19 (by decide) ?_
  obtain ⟨x6, ex6, H⟩ := H
  refine x_iaload dX5_signBy_20 ex6 ?_
  refine x_istore dX5_signBy_21 (by decide) (lv' := [(5, .int x6), (4, .int x4), (3, .int x2), (0, .ref r0), (1, .int i1), (2, .int i2)]) rfl ?_
  refine x_aload_n dX5_signBy_23 rfl 3 rfl ?_
  obtain ⟨q7, eq7, H⟩ := H
  refine x_getR fl_X5_7 dX5_signBy_24 eq7 ?_
  refine x_bipush (v := (10 : Int32)) dX5_signBy_27 (by decide) ?_
  refine x_iload_n dX5_signBy_29 rfl 2 rfl ?_
  refine x_imul dX5_signBy_30 ?_
  refine x_iload dX5_signBy_31 1 rfl ?_
  refine x_iadd dX5_signBy_33 ?_
  obtain ⟨x8, ex8, H⟩ := H
  refine x_iaload dX5_signBy_34 ex8 ?_
  refine x_aload_n dX5_signBy_35 rfl 3 rfl ?_
  obtain ⟨q9, eq9, H⟩ := H
  refine x_getR fl_X5_7 dX5_signBy_36 eq9 ?_
  refine x_bipush (v := (10 : Int32)) dX5_signBy_39 (by decide) ?_
  refine x_iload dX5_signBy_41 0 rfl ?_
  refine x_imul dX5_signBy_43 ?_
  refine x_iload_n dX5_signBy_44 rfl 2 rfl ?_
  refine x_iadd dX5_signBy_45 ?_
  obtain ⟨x10, ex10, H⟩ := H
  refine x_iaload dX5_signBy_46 ex10 ?_
  refine x_imul dX5_signBy_47 ?_
  refine x_aload_n dX5_signBy_48 rfl 3 rfl ?_
  obtain ⟨q11, eq11, H⟩ := H
  refine x_getR fl_X5_7 dX5_signBy_49 eq11 ?_
  refine x_bipush (v := (10 : Int32)) dX5_signBy_52 (by decide) ?_
  refine x_iload dX5_signBy_54 0 rfl ?_
  refine x_imul dX5_signBy_56 ?_
  refine x_iload dX5_signBy_57 1 rfl ?_
  refine x_iadd dX5_signBy_59 ?_
  obtain ⟨x12, ex12, H⟩ := H
  refine x_iaload dX5_signBy_60 ex12 ?_
  refine x_imul dX5_signBy_61 ?_
  exact x_iret dX5_signBy_62 ⟨_, rfl, H⟩
def L_X5_codeOf_7 (d : Nat) (P : Int32 → Hp → Prop) (h : Hp) (r0 : Nat) (i1 : Int32) (i2 : Int32) (i3 : Int32) (i4 : Int32) : Prop := X (KM (some .int) (fun r h' => ∃ x, r = some (.int x) ∧ P x h')) RX5 cX5_codeOf 6 (d + 1) h 7 [(0, .ref r0), (1, .int i1), (2, .int i2), (3, .int i3), (4, .int i4)] []
def L_X5_codeOf_16 (d : Nat) (P : Int32 → Hp → Prop) (h : Hp) (r0 : Nat) (i1 : Int32) (i2 : Int32) (i3 : Int32) (i4 : Int32) (i5 : Int32) : Prop := X (KM (some .int) (fun r h' => ∃ x, r = some (.int x) ∧ P x h')) RX5 cX5_codeOf 6 (d + 1) h 16 [(0, .ref r0), (1, .int i1), (2, .int i2), (3, .int i3), (4, .int i4), (5, .int i5)] []
set_option maxRecDepth 20000 in
theorem e_X5_codeOf {d : Nat} {P : Int32 → Hp → Prop} {h : Hp} {r0 : Nat} {i1 : Int32} (ho : r0 < 47 ∧ ∃ fs, h r0 = .inr (5, fs)) (H : L_X5_codeOf_7 d P h r0 i1 (0 : Int32) (0 : Int32) (2 : Int32)) : CI M_X5_codeOf (d + 1) [.ref r0, .int i1] h P := by
  refine ⟨⟨r0, rfl, ho⟩, x_enter (by decide) (Nat.le_of_ble_eq_true rfl) ?_⟩
  show X (KM (some .int) (fun r h' => ∃ x, r = some (.int x) ∧ P x h')) RX5 cX5_codeOf 6 (d + 1) h 0 [(0, .ref r0), (1, .int i1)] []
  refine x_iconst (v := (0 : Int32)) dX5_codeOf_0 (by decide) ?_
  refine x_istore_n dX5_codeOf_1 rfl (by decide) (lv' := [(2, .int (0 : Int32)), (0, .ref r0), (1, .int i1)]) rfl ?_
  refine x_iconst (v := (0 : Int32)) dX5_codeOf_2 (by decide) ?_
  refine x_istore_n dX5_codeOf_3 rfl (by decide) (lv' := [(3, .int (0 : Int32)), (2, .int (0 : Int32)), (0, .ref r0), (1, .int i1)]) rfl ?_
  refine x_iconst (v := (2 : Int32)) dX5_codeOf_4 (by decide) ?_
  refine x_istore dX5_codeOf_5 (by decide) (lv' := [(4, .int (2 : Int32)), (3, .int (0 : Int32)), (2, .int (0 : Int32)), (0, .ref r0), (1, .int i1)]) rfl ?_
  refine x_perm [3, 4, 2, 1, 0] rfl ?_
  exact H
set_option maxRecDepth 20000 in
theorem r_X5_codeOf_7 {d : Nat} {P : Int32 → Hp → Prop} {h : Hp} {r0 : Nat} {i1 : Int32} {i2 : Int32} {i3 : Int32} {i4 : Int32} (H : ((i1 ≤ i4 → P i2 h) ∧
  (¬ i1 ≤ i4 → L_X5_codeOf_16 d P h r0 i1 i2 i3 i4 (1 : Int32)))) : L_X5_codeOf_7 d P h r0 i1 i2 i3 i4 := by
  show X (KM (some .int) (fun r h' => ∃ x, r = some (.int x) ∧ P x h')) RX5 cX5_codeOf 6 (d + 1) h 7 [(0, .ref r0), (1, .int i1), (2, .int i2), (3, .int i3), (4, .int i4)] []
  refine x_iload dX5_codeOf_7 4 rfl ?_
  refine x_iload_n dX5_codeOf_9 rfl 1 rfl ?_
  refine x_icmp_ge (tgt := 59) dX5_codeOf_10 (by decide) (fun c => ?_) (fun c => ?_)
  · replace H := H.1 c
    refine x_iload_n dX5_codeOf_59 rfl 2 rfl ?_
    exact x_iret dX5_codeOf_60 ⟨_, rfl, H⟩
  · replace H := H.2 c
    refine x_iconst (v := (1 : Int32)) dX5_codeOf_13 (by decide) ?_
    refine x_istore dX5_codeOf_14 (by decide) (lv' := [(5, .int (1 : Int32)), (0, .ref r0), (1, .int i1), (2, .int i2), (3, .int i3), (4, .int i4)]) rfl ?_
    refine x_perm [1, 2, 3, 4, 5, 0] rfl ?_
    exact H
set_option maxRecDepth 20000 in
theorem r_X5_codeOf_16 {d : Nat} {P : Int32 → Hp → Prop} {h : Hp} {r0 : Nat} {i1 : Int32} {i2 : Int32} {i3 : Int32} {i4 : Int32} {i5 : Int32} (H : ((i4 ≤ i5 → L_X5_codeOf_7 d P h r0 i1 i2 i3 (i4 + (1 : Int32))) ∧
  (¬ i4 ≤ i5 → CI M_X5_signBy d [.ref r0, .int i5, .int i4] h (fun x2 h1 => ((0 ≤ x2 → L_X5_codeOf_16 d P h1 r0 i1 (i2 ||| (0 : Int32)) (i3 + (1 : Int32)) i4 (i5 + (1 : Int32))) ∧
    (¬ 0 ≤ x2 → L_X5_codeOf_16 d P h1 r0 i1 (i2 ||| (ishl (1 : Int32) i3)) (i3 + (1 : Int32)) i4 (i5 + (1 : Int32)))))))) : L_X5_codeOf_16 d P h r0 i1 i2 i3 i4 i5 := by
  show X (KM (some .int) (fun r h' => ∃ x, r = some (.int x) ∧ P x h')) RX5 cX5_codeOf 6 (d + 1) h 16 [(0, .ref r0), (1, .int i1), (2, .int i2), (3, .int i3), (4, .int i4), (5, .int i5)] []
  refine x_iload dX5_codeOf_16 5 rfl ?_
  refine x_iload dX5_codeOf_18 4 rfl ?_
  refine x_icmp_ge (tgt := 53) dX5_codeOf_20 (by decide) (fun c => ?_) (fun c => ?_)
  · replace H := H.1 c
    refine x_iinc (q := 4) (v := (i4 + (1 : Int32))) dX5_codeOf_53 rfl rfl (by decide) (lv' := [(4, .int (i4 + (1 : Int32))), (0, .ref r0), (1, .int i1), (2, .int i2), (3, .int i3), (5, .int i5)]) rfl ?_
    refine x_goto (tgt := 7) dX5_codeOf_56 (by decide) ?_
    refine x_perm [1, 2, 3, 4, 0] rfl ?_
    exact H
  · replace H := H.2 c
    refine x_iload_n dX5_codeOf_23 rfl 2 rfl ?_
    refine x_aload_n dX5_codeOf_24 rfl 0 rfl ?_
    refine x_iload dX5_codeOf_25 5 rfl ?_
    refine x_iload dX5_codeOf_27 4 rfl ?_
    refine x_vI vl_X5_102 dX5_codeOf_29 (As := [.int i5, .int i4]) rfl rfl (Nat.le_of_ble_eq_true rfl) (CI.mono H (fun x2 h1 H => ?_))
    refine x_if_ge (tgt := 41) dX5_codeOf_32 (by decide) (fun c => ?_) (fun c => ?_)
    · replace H := H.1 c
      refine x_iconst (v := (0 : Int32)) dX5_codeOf_41 (by decide) ?_
      refine x_ior dX5_codeOf_42 ?_
      refine x_istore_n dX5_codeOf_43 rfl (by decide) (lv' := [(2, .int (i2 ||| (0 : Int32))), (0, .ref r0), (1, .int i1), (3, .int i3), (4, .int i4), (5, .int i5)]) rfl ?_
      refine x_iinc (q := 3) (v := (i3 + (1 : Int32))) dX5_codeOf_44 rfl rfl (by decide) (lv' := [(3, .int (i3 + (1 : Int32))), (2, .int (i2 ||| (0 : Int32))), (0, .ref r0), (1, .int i1), (4, .int i4), (5, .int i5)]) rfl ?_
      refine x_iinc (q := 5) (v := (i5 + (1 : Int32))) dX5_codeOf_47 rfl rfl (by decide) (lv' := [(5, .int (i5 + (1 : Int32))), (3, .int (i3 + (1 : Int32))), (2, .int (i2 ||| (0 : Int32))), (0, .ref r0), (1, .int i1), (4, .int i4)]) rfl ?_
      refine x_goto (tgt := 16) dX5_codeOf_50 (by decide) ?_
      refine x_perm [3, 4, 2, 1, 5, 0] rfl ?_
      exact H
    · replace H := H.2 c
      refine x_iconst (v := (1 : Int32)) dX5_codeOf_35 (by decide) ?_
      refine x_iload_n dX5_codeOf_36 rfl 3 rfl ?_
      refine x_ishl dX5_codeOf_37 ?_
      refine x_goto (tgt := 42) dX5_codeOf_38 (by decide) ?_
      refine x_ior dX5_codeOf_42 ?_
      refine x_istore_n dX5_codeOf_43 rfl (by decide) (lv' := [(2, .int (i2 ||| (ishl (1 : Int32) i3))), (0, .ref r0), (1, .int i1), (3, .int i3), (4, .int i4), (5, .int i5)]) rfl ?_
      refine x_iinc (q := 3) (v := (i3 + (1 : Int32))) dX5_codeOf_44 rfl rfl (by decide) (lv' := [(3, .int (i3 + (1 : Int32))), (2, .int (i2 ||| (ishl (1 : Int32) i3))), (0, .ref r0), (1, .int i1), (4, .int i4), (5, .int i5)]) rfl ?_
      refine x_iinc (q := 5) (v := (i5 + (1 : Int32))) dX5_codeOf_47 rfl rfl (by decide) (lv' := [(5, .int (i5 + (1 : Int32))), (3, .int (i3 + (1 : Int32))), (2, .int (i2 ||| (ishl (1 : Int32) i3))), (0, .ref r0), (1, .int i1), (4, .int i4)]) rfl ?_
      refine x_goto (tgt := 16) dX5_codeOf_50 (by decide) ?_
      refine x_perm [3, 4, 2, 1, 5, 0] rfl ?_
      exact H
def L_X5_begin_2 (d : Nat) (P : Hp → Prop) (h : Hp) (r0 : Nat) (i1 : Int32) (i2 : Int32) : Prop := X (KM (none) (fun r h' => r = none ∧ P h')) RX5 cX5_begin 3 (d + 1) h 2 [(0, .ref r0), (1, .int i1), (2, .int i2)] []
set_option maxRecDepth 20000 in
theorem e_X5_begin {d : Nat} {P : Hp → Prop} {h : Hp} {r0 : Nat} {i1 : Int32} (ho : r0 < 47 ∧ ∃ fs, h r0 = .inr (5, fs)) (H : L_X5_begin_2 d P h r0 i1 (0 : Int32)) : CV M_X5_begin (d + 1) [.ref r0, .int i1] h P := by
  refine ⟨⟨r0, rfl, ho⟩, x_enter (by decide) (Nat.le_of_ble_eq_true rfl) ?_⟩
  show X (KM (none) (fun r h' => r = none ∧ P h')) RX5 cX5_begin 3 (d + 1) h 0 [(0, .ref r0), (1, .int i1)] []
  refine x_iconst (v := (0 : Int32)) dX5_begin_0 (by decide) ?_
  refine x_istore_n dX5_begin_1 rfl (by decide) (lv' := [(2, .int (0 : Int32)), (0, .ref r0), (1, .int i1)]) rfl ?_
  refine x_perm [1, 2, 0] rfl ?_
  exact H
set_option maxRecDepth 20000 in
theorem r_X5_begin_2 {d : Nat} {P : Hp → Prop} {h : Hp} {r0 : Nat} {i1 : Int32} {i2 : Int32} (H : ((i1 ≤ i2 → P h) ∧
  (¬ i1 ≤ i2 → ∃ q1, gR h 5 r0 9 = some q1 ∧ ∃ h2, sI h q1 i2 i2 = some h2 ∧ L_X5_begin_2 d P h2 r0 i1 (i2 + (1 : Int32))))) : L_X5_begin_2 d P h r0 i1 i2 := by
  show X (KM (none) (fun r h' => r = none ∧ P h')) RX5 cX5_begin 3 (d + 1) h 2 [(0, .ref r0), (1, .int i1), (2, .int i2)] []
  refine x_iload_n dX5_begin_2 rfl 2 rfl ?_
  refine x_iload_n dX5_begin_3 rfl 1 rfl ?_
  refine x_icmp_ge (tgt := 20) dX5_begin_4 (by decide) (fun c => ?_) (fun c => ?_)
  · replace H := H.1 c
    exact x_vret dX5_begin_20 ⟨rfl, H⟩
  · replace H := H.2 c
    refine x_aload_n dX5_begin_7 rfl 0 rfl ?_
    obtain ⟨q1, eq1, H⟩ := H
    refine x_getR fl_X5_36 dX5_begin_8 eq1 ?_
    refine x_iload_n dX5_begin_11 rfl 2 rfl ?_
    refine x_iload_n dX5_begin_12 rfl 2 rfl ?_
    obtain ⟨h2, eh2, H⟩ := H
    refine x_iastore dX5_begin_13 eh2 ?_
    refine x_iinc (q := 2) (v := (i2 + (1 : Int32))) dX5_begin_14 rfl rfl (by decide) (lv' := [(2, .int (i2 + (1 : Int32))), (0, .ref r0), (1, .int i1)]) rfl ?_
    refine x_goto (tgt := 2) dX5_begin_17 (by decide) ?_
    refine x_perm [1, 2, 0] rfl ?_
    exact H
def L_X5_step_4 (d : Nat) (P : Int32 → Hp → Prop) (h : Hp) (r0 : Nat) (i1 : Int32) (i2 : Int32) : Prop := X (KM (some .boolean) (fun r h' => ∃ x, r = some (.int x) ∧ P x h')) RX5 cX5_step 8 (d + 1) h 4 [(0, .ref r0), (1, .int i1), (2, .int i2)] []
def L_X5_step_41 (d : Nat) (P : Int32 → Hp → Prop) (h : Hp) (r0 : Nat) (i1 : Int32) (i2 : Int32) (i3 : Int32) : Prop := X (KM (some .boolean) (fun r h' => ∃ x, r = some (.int x) ∧ P x h')) RX5 cX5_step 8 (d + 1) h 41 [(0, .ref r0), (1, .int i1), (2, .int i2), (3, .int i3)] []
def L_X5_step_100 (d : Nat) (P : Int32 → Hp → Prop) (h : Hp) (r0 : Nat) (i5 : Int32) (i6 : Int32) : Prop := X (KM (some .boolean) (fun r h' => ∃ x, r = some (.int x) ∧ P x h')) RX5 cX5_step 8 (d + 1) h 100 [(0, .ref r0), (5, .int i5), (6, .int i6)] []
set_option maxRecDepth 20000 in
theorem e_X5_step {d : Nat} {P : Int32 → Hp → Prop} {h : Hp} {r0 : Nat} {i1 : Int32} (ho : r0 < 47 ∧ ∃ fs, h r0 = .inr (5, fs)) (H : L_X5_step_4 d P h r0 i1 (i1 - (2 : Int32))) : CI M_X5_step (d + 1) [.ref r0, .int i1] h P := by
  refine ⟨⟨r0, rfl, ho⟩, x_enter (by decide) (Nat.le_of_ble_eq_true rfl) ?_⟩
  show X (KM (some .boolean) (fun r h' => ∃ x, r = some (.int x) ∧ P x h')) RX5 cX5_step 8 (d + 1) h 0 [(0, .ref r0), (1, .int i1)] []
  refine x_iload_n dX5_step_0 rfl 1 rfl ?_
  refine x_iconst (v := (2 : Int32)) dX5_step_1 (by decide) ?_
  refine x_isub dX5_step_2 ?_
  refine x_istore_n dX5_step_3 rfl (by decide) (lv' := [(2, .int (i1 - (2 : Int32))), (0, .ref r0), (1, .int i1)]) rfl ?_
  refine x_perm [1, 2, 0] rfl ?_
  exact H
set_option maxRecDepth 20000 in
theorem r_X5_step_4 {d : Nat} {P : Int32 → Hp → Prop} {h : Hp} {r0 : Nat} {i1 : Int32} {i2 : Int32} (H : ((i2 < 0 → ((0 ≤ i2 → L_X5_step_41 d P h r0 i1 i2 (i1 - (1 : Int32))) ∧
    (¬ 0 ≤ i2 → P (0 : Int32) h))) ∧
  (¬ i2 < 0 → ∃ q1, gR h 5 r0 9 = some q1 ∧ ∃ x2, lI h q1 i2 = some x2 ∧ ∃ q3, gR h 5 r0 9 = some q3 ∧ ∃ x4, lI h q3 (i2 + (1 : Int32)) = some x4 ∧ ((x2 ≤ x4 → ((0 ≤ i2 → L_X5_step_41 d P h r0 i1 i2 (i1 - (1 : Int32))) ∧
      (¬ 0 ≤ i2 → P (0 : Int32) h))) ∧
    (¬ x2 ≤ x4 → L_X5_step_4 d P h r0 i1 (i2 + (-1 : Int32))))))) : L_X5_step_4 d P h r0 i1 i2 := by
  show X (KM (some .boolean) (fun r h' => ∃ x, r = some (.int x) ∧ P x h')) RX5 cX5_step 8 (d + 1) h 4 [(0, .ref r0), (1, .int i1), (2, .int i2)] []
  refine x_iload_n dX5_step_4 rfl 2 rfl ?_
  refine x_if_lt (tgt := 31) dX5_step_5 (by decide) (fun c => ?_) (fun c => ?_)
  · replace H := H.1 c
    refine x_iload_n dX5_step_31 rfl 2 rfl ?_
    refine x_if_ge (tgt := 37) dX5_step_32 (by decide) (fun c => ?_) (fun c => ?_)
    · replace H := H.1 c
      refine x_iload_n dX5_step_37 rfl 1 rfl ?_
      refine x_iconst (v := (1 : Int32)) dX5_step_38 (by decide) ?_
      refine x_isub dX5_step_39 ?_
      refine x_istore_n dX5_step_40 rfl (by decide) (lv' := [(3, .int (i1 - (1 : Int32))), (0, .ref r0), (1, .int i1), (2, .int i2)]) rfl ?_
      refine x_perm [1, 2, 3, 0] rfl ?_
      exact H
    · replace H := H.2 c
      refine x_iconst (v := (0 : Int32)) dX5_step_35 (by decide) ?_
      exact x_zret dX5_step_36 (by decide) ⟨_, rfl, H⟩
  · replace H := H.2 c
    refine x_aload_n dX5_step_8 rfl 0 rfl ?_
    obtain ⟨q1, eq1, H⟩ := H
    refine x_getR fl_X5_36 dX5_step_9 eq1 ?_
    refine x_iload_n dX5_step_12 rfl 2 rfl ?_
    obtain ⟨x2, ex2, H⟩ := H
    refine x_iaload dX5_step_13 ex2 ?_
    refine x_aload_n dX5_step_14 rfl 0 rfl ?_
    obtain ⟨q3, eq3, H⟩ := H
    refine x_getR fl_X5_36 dX5_step_15 eq3 ?_
    refine x_iload_n dX5_step_18 rfl 2 rfl ?_
    refine x_iconst (v := (1 : Int32)) dX5_step_19 (by decide) ?_
    refine x_iadd dX5_step_20 ?_
    obtain ⟨x4, ex4, H⟩ := H
    refine x_iaload dX5_step_21 ex4 ?_
    refine x_icmp_le (tgt := 31) dX5_step_22 (by decide) (fun c => ?_) (fun c => ?_)
    · replace H := H.1 c
      refine x_iload_n dX5_step_31 rfl 2 rfl ?_
      refine x_if_ge (tgt := 37) dX5_step_32 (by decide) (fun c => ?_) (fun c => ?_)
      · replace H := H.1 c
        refine x_iload_n dX5_step_37 rfl 1 rfl ?_
        refine x_iconst (v := (1 : Int32)) dX5_step_38 (by decide) ?_
        refine x_isub dX5_step_39 ?_
        refine x_istore_n dX5_step_40 rfl (by decide) (lv' := [(3, .int (i1 - (1 : Int32))), (0, .ref r0), (1, .int i1), (2, .int i2)]) rfl ?_
        refine x_perm [1, 2, 3, 0] rfl ?_
        exact H
      · replace H := H.2 c
        refine x_iconst (v := (0 : Int32)) dX5_step_35 (by decide) ?_
        exact x_zret dX5_step_36 (by decide) ⟨_, rfl, H⟩
    · replace H := H.2 c
      refine x_iinc (q := 2) (v := (i2 + (-1 : Int32))) dX5_step_25 rfl rfl (by decide) (lv' := [(2, .int (i2 + (-1 : Int32))), (0, .ref r0), (1, .int i1)]) rfl ?_
      refine x_goto (tgt := 4) dX5_step_28 (by decide) ?_
      refine x_perm [1, 2, 0] rfl ?_
      exact H
set_option maxRecDepth 20000 in
theorem r_X5_step_41 {d : Nat} {P : Int32 → Hp → Prop} {h : Hp} {r0 : Nat} {i1 : Int32} {i2 : Int32} {i3 : Int32} (H : ∃ q1, gR h 5 r0 9 = some q1 ∧ ∃ x2, lI h q1 i3 = some x2 ∧ ∃ q3, gR h 5 r0 9 = some q3 ∧ ∃ x4, lI h q3 i2 = some x4 ∧ ((x4 ≤ x2 → ∃ q5, gR h 5 r0 9 = some q5 ∧ ∃ x6, lI h q5 i2 = some x6 ∧ ∃ q7, gR h 5 r0 9 = some q7 ∧ ∃ q8, gR h 5 r0 9 = some q8 ∧ ∃ x9, lI h q8 i3 = some x9 ∧ ∃ h10, sI h q7 i2 x9 = some h10 ∧ ∃ q11, gR h10 5 r0 9 = some q11 ∧ ∃ h12, sI h10 q11 i3 x6 = some h12 ∧ L_X5_step_100 d P h12 r0 (i2 + (1 : Int32)) (i1 - (1 : Int32))) ∧
  (¬ x4 ≤ x2 → L_X5_step_41 d P h r0 i1 i2 (i3 + (-1 : Int32))))) : L_X5_step_41 d P h r0 i1 i2 i3 := by
  show X (KM (some .boolean) (fun r h' => ∃ x, r = some (.int x) ∧ P x h')) RX5 cX5_step 8 (d + 1) h 41 [(0, .ref r0), (1, .int i1), (2, .int i2), (3, .int i3)] []
  refine x_aload_n dX5_step_41 rfl 0 rfl ?_
  obtain ⟨q1, eq1, H⟩ := H
  refine x_getR fl_X5_36 dX5_step_42 eq1 ?_
  refine x_iload_n dX5_step_45 rfl 3 rfl ?_
  obtain ⟨x2, ex2, H⟩ := H
  refine x_iaload dX5_step_46 ex2 ?_
  refine x_aload_n dX5_step_47 rfl 0 rfl ?_
  obtain ⟨q3, eq3, H⟩ := H
  refine x_getR fl_X5_36 dX5_step_48 eq3 ?_
  refine x_iload_n dX5_step_51 rfl 2 rfl ?_
  obtain ⟨x4, ex4, H⟩ := H
  refine x_iaload dX5_step_52 ex4 ?_
  refine x_icmp_ge (tgt := 62) dX5_step_53 (by decide) (fun c => ?_) (fun c => ?_)
  · replace H := H.1 c
    refine x_aload_n dX5_step_62 rfl 0 rfl ?_
    obtain ⟨q5, eq5, H⟩ := H
    refine x_getR fl_X5_36 dX5_step_63 eq5 ?_
    refine x_iload_n dX5_step_66 rfl 2 rfl ?_
    obtain ⟨x6, ex6, H⟩ := H
    refine x_iaload dX5_step_67 ex6 ?_
    refine x_istore dX5_step_68 (by decide) (lv' := [(4, .int x6), (0, .ref r0), (1, .int i1), (2, .int i2), (3, .int i3)]) rfl ?_
    refine x_aload_n dX5_step_70 rfl 1 rfl ?_
    obtain ⟨q7, eq7, H⟩ := H
    refine x_getR fl_X5_36 dX5_step_71 eq7 ?_
    refine x_iload_n dX5_step_74 rfl 3 rfl ?_
    refine x_aload_n dX5_step_75 rfl 1 rfl ?_
    obtain ⟨q8, eq8, H⟩ := H
    refine x_getR fl_X5_36 dX5_step_76 eq8 ?_
    refine x_iload_n dX5_step_79 rfl 4 rfl ?_
    obtain ⟨x9, ex9, H⟩ := H
    refine x_iaload dX5_step_80 ex9 ?_
    obtain ⟨h10, eh10, H⟩ := H
    refine x_iastore dX5_step_81 eh10 ?_
    refine x_aload_n dX5_step_82 rfl 1 rfl ?_
    obtain ⟨q11, eq11, H⟩ := H
    refine x_getR fl_X5_36 dX5_step_83 eq11 ?_
    refine x_iload_n dX5_step_86 rfl 4 rfl ?_
    refine x_iload dX5_step_87 0 rfl ?_
    obtain ⟨h12, eh12, H⟩ := H
    refine x_iastore dX5_step_89 eh12 ?_
    refine x_iload_n dX5_step_90 rfl 3 rfl ?_
    refine x_iconst (v := (1 : Int32)) dX5_step_91 (by decide) ?_
    refine x_iadd dX5_step_92 ?_
    refine x_istore dX5_step_93 (by decide) (lv' := [(5, .int (i2 + (1 : Int32))), (4, .int x6), (0, .ref r0), (1, .int i1), (2, .int i2), (3, .int i3)]) rfl ?_
    refine x_iload_n dX5_step_95 rfl 3 rfl ?_
    refine x_iconst (v := (1 : Int32)) dX5_step_96 (by decide) ?_
    refine x_isub dX5_step_97 ?_
    refine x_istore dX5_step_98 (by decide) (lv' := [(6, .int (i1 - (1 : Int32))), (5, .int (i2 + (1 : Int32))), (4, .int x6), (0, .ref r0), (1, .int i1), (2, .int i2), (3, .int i3)]) rfl ?_
    refine x_perm [3, 1, 0] rfl ?_
    exact H
  · replace H := H.2 c
    refine x_iinc (q := 3) (v := (i3 + (-1 : Int32))) dX5_step_56 rfl rfl (by decide) (lv' := [(3, .int (i3 + (-1 : Int32))), (0, .ref r0), (1, .int i1), (2, .int i2)]) rfl ?_
    refine x_goto (tgt := 41) dX5_step_59 (by decide) ?_
    refine x_perm [1, 2, 3, 0] rfl ?_
    exact H
set_option maxRecDepth 20000 in
theorem r_X5_step_100 {d : Nat} {P : Int32 → Hp → Prop} {h : Hp} {r0 : Nat} {i5 : Int32} {i6 : Int32} (H : ((i6 ≤ i5 → P (1 : Int32) h) ∧
  (¬ i6 ≤ i5 → ∃ q1, gR h 5 r0 9 = some q1 ∧ ∃ x2, lI h q1 i5 = some x2 ∧ ∃ q3, gR h 5 r0 9 = some q3 ∧ ∃ q4, gR h 5 r0 9 = some q4 ∧ ∃ x5, lI h q4 i6 = some x5 ∧ ∃ h6, sI h q3 i5 x5 = some h6 ∧ ∃ q7, gR h6 5 r0 9 = some q7 ∧ ∃ h8, sI h6 q7 i6 x2 = some h8 ∧ L_X5_step_100 d P h8 r0 (i5 + (1 : Int32)) (i6 + (-1 : Int32))))) : L_X5_step_100 d P h r0 i5 i6 := by
  show X (KM (some .boolean) (fun r h' => ∃ x, r = some (.int x) ∧ P x h')) RX5 cX5_step 8 (d + 1) h 100 [(0, .ref r0), (5, .int i5), (6, .int i6)] []
  refine x_iload dX5_step_100 1 rfl ?_
  refine x_iload dX5_step_102 2 rfl ?_
  refine x_icmp_ge (tgt := 148) dX5_step_104 (by decide) (fun c => ?_) (fun c => ?_)
  · replace H := H.1 c
    refine x_iconst (v := (1 : Int32)) dX5_step_148 (by decide) ?_
    exact x_zret dX5_step_149 (by decide) ⟨_, rfl, H⟩
  · replace H := H.2 c
    refine x_aload_n dX5_step_107 rfl 0 rfl ?_
    obtain ⟨q1, eq1, H⟩ := H
    refine x_getR fl_X5_36 dX5_step_108 eq1 ?_
    refine x_iload dX5_step_111 1 rfl ?_
    obtain ⟨x2, ex2, H⟩ := H
    refine x_iaload dX5_step_113 ex2 ?_
    refine x_istore dX5_step_114 (by decide) (lv' := [(7, .int x2), (0, .ref r0), (5, .int i5), (6, .int i6)]) rfl ?_
    refine x_aload_n dX5_step_116 rfl 1 rfl ?_
    obtain ⟨q3, eq3, H⟩ := H
    refine x_getR fl_X5_36 dX5_step_117 eq3 ?_
    refine x_iload dX5_step_120 2 rfl ?_
    refine x_aload_n dX5_step_122 rfl 1 rfl ?_
    obtain ⟨q4, eq4, H⟩ := H
    refine x_getR fl_X5_36 dX5_step_123 eq4 ?_
    refine x_iload dX5_step_126 3 rfl ?_
    obtain ⟨x5, ex5, H⟩ := H
    refine x_iaload dX5_step_128 ex5 ?_
    obtain ⟨h6, eh6, H⟩ := H
    refine x_iastore dX5_step_129 eh6 ?_
    refine x_aload_n dX5_step_130 rfl 1 rfl ?_
    obtain ⟨q7, eq7, H⟩ := H
    refine x_getR fl_X5_36 dX5_step_131 eq7 ?_
    refine x_iload dX5_step_134 3 rfl ?_
    refine x_iload dX5_step_136 0 rfl ?_
    obtain ⟨h8, eh8, H⟩ := H
    refine x_iastore dX5_step_138 eh8 ?_
    refine x_iinc (q := 2) (v := (i5 + (1 : Int32))) dX5_step_139 rfl rfl (by decide) (lv' := [(5, .int (i5 + (1 : Int32))), (7, .int x2), (0, .ref r0), (6, .int i6)]) rfl ?_
    refine x_iinc (q := 3) (v := (i6 + (-1 : Int32))) dX5_step_142 rfl rfl (by decide) (lv' := [(6, .int (i6 + (-1 : Int32))), (5, .int (i5 + (1 : Int32))), (7, .int x2), (0, .ref r0)]) rfl ?_
    refine x_goto (tgt := 100) dX5_step_145 (by decide) ?_
    refine x_perm [3, 1, 0] rfl ?_
    exact H
def L_X5_nameOf_11 (d : Nat) (P : Int32 → Hp → Prop) (h : Hp) (r0 : Nat) (i1 : Int32) (i2 : Int32) : Prop := X (KM (some .int) (fun r h' => ∃ x, r = some (.int x) ∧ P x h')) RX5 cX5_nameOf 4 (d + 1) h 11 [(0, .ref r0), (1, .int i1), (2, .int i2)] []
set_option maxRecDepth 20000 in
theorem e_X5_nameOf {d : Nat} {P : Int32 → Hp → Prop} {h : Hp} {r0 : Nat} {i1 : Int32} (ho : r0 < 47 ∧ ∃ fs, h r0 = .inr (5, fs)) (H : CV M_X5_begin d [.ref r0, .int i1] h (fun h1 => CI M_X5_codeOf d [.ref r0, .int i1] h1 (fun x3 h2 => L_X5_nameOf_11 d P h2 r0 i1 x3))) : CI M_X5_nameOf (d + 1) [.ref r0, .int i1] h P := by
  refine ⟨⟨r0, rfl, ho⟩, x_enter (by decide) (Nat.le_of_ble_eq_true rfl) ?_⟩
  show X (KM (some .int) (fun r h' => ∃ x, r = some (.int x) ∧ P x h')) RX5 cX5_nameOf 4 (d + 1) h 0 [(0, .ref r0), (1, .int i1)] []
  refine x_aload_n dX5_nameOf_0 rfl 0 rfl ?_
  refine x_iload_n dX5_nameOf_1 rfl 1 rfl ?_
  refine x_vV vl_X5_105 dX5_nameOf_2 (As := [.int i1]) rfl rfl (Nat.le_of_ble_eq_true rfl) (CV.mono H (fun h1 H => ?_))
  refine x_aload_n dX5_nameOf_5 rfl 0 rfl ?_
  refine x_iload_n dX5_nameOf_6 rfl 1 rfl ?_
  refine x_vI vl_X5_109 dX5_nameOf_7 (As := [.int i1]) rfl rfl (Nat.le_of_ble_eq_true rfl) (CI.mono H (fun x3 h2 H => ?_))
  refine x_istore_n dX5_nameOf_10 rfl (by decide) (lv' := [(2, .int x3), (0, .ref r0), (1, .int i1)]) rfl ?_
  refine x_perm [1, 2, 0] rfl ?_
  exact H
set_option maxRecDepth 20000 in
theorem r_X5_nameOf_11 {d : Nat} {P : Int32 → Hp → Prop} {h : Hp} {r0 : Nat} {i1 : Int32} {i2 : Int32} (H : CI M_X5_step d [.ref r0, .int i1] h (fun x2 h1 => ((x2 = 0 → P i2 h1) ∧
  (¬ x2 = 0 → CI M_X5_codeOf d [.ref r0, .int i1] h1 (fun x4 h3 => ((i2 ≤ x4 → L_X5_nameOf_11 d P h3 r0 i1 i2) ∧
    (¬ i2 ≤ x4 → L_X5_nameOf_11 d P h3 r0 i1 x4))))))) : L_X5_nameOf_11 d P h r0 i1 i2 := by
  show X (KM (some .int) (fun r h' => ∃ x, r = some (.int x) ∧ P x h')) RX5 cX5_nameOf 4 (d + 1) h 11 [(0, .ref r0), (1, .int i1), (2, .int i2)] []
  refine x_aload_n dX5_nameOf_11 rfl 0 rfl ?_
  refine x_iload_n dX5_nameOf_12 rfl 1 rfl ?_
  refine x_vI vl_X5_112 dX5_nameOf_13 (As := [.int i1]) rfl rfl (Nat.le_of_ble_eq_true rfl) (CI.mono H (fun x2 h1 H => ?_))
  refine x_if_eq (tgt := 39) dX5_nameOf_16 (by decide) (fun c => ?_) (fun c => ?_)
  · replace H := H.1 c
    refine x_iload_n dX5_nameOf_39 rfl 2 rfl ?_
    exact x_iret dX5_nameOf_40 ⟨_, rfl, H⟩
  · replace H := H.2 c
    refine x_aload_n dX5_nameOf_19 rfl 0 rfl ?_
    refine x_iload_n dX5_nameOf_20 rfl 1 rfl ?_
    refine x_vI vl_X5_109 dX5_nameOf_21 (As := [.int i1]) rfl rfl (Nat.le_of_ble_eq_true rfl) (CI.mono H (fun x4 h3 H => ?_))
    refine x_istore_n dX5_nameOf_24 rfl (by decide) (lv' := [(3, .int x4), (0, .ref r0), (1, .int i1), (2, .int i2)]) rfl ?_
    refine x_iload_n dX5_nameOf_25 rfl 0 rfl ?_
    refine x_iload_n dX5_nameOf_26 rfl 3 rfl ?_
    refine x_icmp_ge (tgt := 34) dX5_nameOf_27 (by decide) (fun c => ?_) (fun c => ?_)
    · replace H := H.1 c
      refine x_iload_n dX5_nameOf_34 rfl 3 rfl ?_
      refine x_istore_n dX5_nameOf_35 rfl (by decide) (lv' := [(2, .int i2), (3, .int x4), (0, .ref r0), (1, .int i1)]) rfl ?_
      refine x_goto (tgt := 11) dX5_nameOf_36 (by decide) ?_
      refine x_perm [2, 3, 0] rfl ?_
      exact H
    · replace H := H.2 c
      refine x_iload_n dX5_nameOf_30 rfl 0 rfl ?_
      refine x_goto (tgt := 35) dX5_nameOf_31 (by decide) ?_
      refine x_istore_n dX5_nameOf_35 rfl (by decide) (lv' := [(2, .int x4), (3, .int x4), (0, .ref r0), (1, .int i1)]) rfl ?_
      refine x_goto (tgt := 11) dX5_nameOf_36 (by decide) ?_
      refine x_perm [2, 3, 0] rfl ?_
      exact H
set_option maxRecDepth 20000 in
theorem e_X5_name {d : Nat} {P : Int32 → Hp → Prop} {h : Hp} {r0 : Nat} (ho : r0 < 47 ∧ ∃ fs, h r0 = .inr (5, fs)) (H : ∃ x1, gI h 5 r0 0 = some x1 ∧ ((x1 ≤ (7 : Int32) → ∃ x2, gI h 5 r0 0 = some x2 ∧ CI M_X5_nameOf d [.ref r0, .int x2] h (fun x4 h3 => P x4 h3)) ∧
  (¬ x1 ≤ (7 : Int32) → P (-3 : Int32) h))) : CI M_X5_name (d + 1) [.ref r0] h P := by
  refine ⟨⟨r0, rfl, ho⟩, x_enter (by decide) (Nat.le_of_ble_eq_true rfl) ?_⟩
  show X (KM (some .int) (fun r h' => ∃ x, r = some (.int x) ∧ P x h')) RX5 cX5_name 1 (d + 1) h 0 [(0, .ref r0)] []
  refine x_aload_n dX5_name_0 rfl 0 rfl ?_
  obtain ⟨x1, ex1, H⟩ := H
  refine x_getI fl_X5_58 dX5_name_1 ex1 ?_
  refine x_bipush (v := (7 : Int32)) dX5_name_4 (by decide) ?_
  refine x_icmp_le (tgt := 14) dX5_name_6 (by decide) (fun c => ?_) (fun c => ?_)
  · replace H := H.1 c
    refine x_aload_n dX5_name_14 rfl 0 rfl ?_
    refine x_aload_n dX5_name_15 rfl 0 rfl ?_
    obtain ⟨x2, ex2, H⟩ := H
    refine x_getI fl_X5_58 dX5_name_16 ex2 ?_
    refine x_vI vl_X5_115 dX5_name_19 (As := [.int x2]) rfl rfl (Nat.le_of_ble_eq_true rfl) (CI.mono H (fun x4 h3 H => ?_))
    exact x_iret dX5_name_22 ⟨_, rfl, H⟩
  · replace H := H.2 c
    refine x_bipush (v := (-3 : Int32)) dX5_name_9 (by decide) ?_
    refine x_goto (tgt := 22) dX5_name_11 (by decide) ?_
    exact x_iret dX5_name_22 ⟨_, rfl, H⟩
def L_X5_spell_5 (d : Nat) (P : Hp → Prop) (h : Hp) (r0 : Nat) (i1 : Int32) (i2 : Int32) (i3 : Int32) (i4 : Int32) : Prop := X (KM (none) (fun r h' => r = none ∧ P h')) RX5 cX5_spell 6 (d + 1) h 5 [(0, .ref r0), (1, .int i1), (2, .int i2), (3, .int i3), (4, .int i4)] []
def L_X5_spell_22 (d : Nat) (P : Hp → Prop) (h : Hp) (r0 : Nat) (i1 : Int32) (i2 : Int32) (i3 : Int32) (i4 : Int32) (i5 : Int32) : Prop := X (KM (none) (fun r h' => r = none ∧ P h')) RX5 cX5_spell 6 (d + 1) h 22 [(0, .ref r0), (1, .int i1), (2, .int i2), (3, .int i3), (4, .int i4), (5, .int i5)] []
set_option maxRecDepth 20000 in
theorem e_X5_spell {d : Nat} {P : Hp → Prop} {h : Hp} {r0 : Nat} {i1 : Int32} {i2 : Int32} (ho : r0 < 47 ∧ ∃ fs, h r0 = .inr (5, fs)) (H : L_X5_spell_5 d P h r0 i1 i2 (0 : Int32) (1 : Int32)) : CV M_X5_spell (d + 1) [.ref r0, .int i1, .int i2] h P := by
  refine ⟨⟨r0, rfl, ho⟩, x_enter (by decide) (Nat.le_of_ble_eq_true rfl) ?_⟩
  show X (KM (none) (fun r h' => r = none ∧ P h')) RX5 cX5_spell 6 (d + 1) h 0 [(0, .ref r0), (1, .int i1), (2, .int i2)] []
  refine x_iconst (v := (0 : Int32)) dX5_spell_0 (by decide) ?_
  refine x_istore_n dX5_spell_1 rfl (by decide) (lv' := [(3, .int (0 : Int32)), (0, .ref r0), (1, .int i1), (2, .int i2)]) rfl ?_
  refine x_iconst (v := (1 : Int32)) dX5_spell_2 (by decide) ?_
  refine x_istore dX5_spell_3 (by decide) (lv' := [(4, .int (1 : Int32)), (3, .int (0 : Int32)), (0, .ref r0), (1, .int i1), (2, .int i2)]) rfl ?_
  refine x_perm [2, 3, 4, 1, 0] rfl ?_
  exact H
set_option maxRecDepth 20000 in
theorem r_X5_spell_5 {d : Nat} {P : Hp → Prop} {h : Hp} {r0 : Nat} {i1 : Int32} {i2 : Int32} {i3 : Int32} {i4 : Int32} (H : ((i1 ≤ i4 → P h) ∧
  (¬ i1 ≤ i4 → CV M_X5_set d [.ref r0, .int (0 : Int32), .int i4, .int (1 : Int32)] h (fun h1 => L_X5_spell_22 d P h1 r0 i1 i2 i3 i4 (1 : Int32))))) : L_X5_spell_5 d P h r0 i1 i2 i3 i4 := by
  show X (KM (none) (fun r h' => r = none ∧ P h')) RX5 cX5_spell 6 (d + 1) h 5 [(0, .ref r0), (1, .int i1), (2, .int i2), (3, .int i3), (4, .int i4)] []
  refine x_iload dX5_spell_5 4 rfl ?_
  refine x_iload_n dX5_spell_7 rfl 1 rfl ?_
  refine x_icmp_ge (tgt := 66) dX5_spell_8 (by decide) (fun c => ?_) (fun c => ?_)
  · replace H := H.1 c
    exact x_vret dX5_spell_66 ⟨rfl, H⟩
  · replace H := H.2 c
    refine x_aload_n dX5_spell_11 rfl 0 rfl ?_
    refine x_iconst (v := (0 : Int32)) dX5_spell_12 (by decide) ?_
    refine x_iload dX5_spell_13 4 rfl ?_
    refine x_iconst (v := (1 : Int32)) dX5_spell_15 (by decide) ?_
    refine x_vV vl_X5_65 dX5_spell_16 (As := [.int (0 : Int32), .int i4, .int (1 : Int32)]) rfl rfl (Nat.le_of_ble_eq_true rfl) (CV.mono H (fun h1 H => ?_))
    refine x_iconst (v := (1 : Int32)) dX5_spell_19 (by decide) ?_
    refine x_istore dX5_spell_20 (by decide) (lv' := [(5, .int (1 : Int32)), (0, .ref r0), (1, .int i1), (2, .int i2), (3, .int i3), (4, .int i4)]) rfl ?_
    refine x_perm [1, 2, 3, 4, 5, 0] rfl ?_
    exact H
set_option maxRecDepth 20000 in
theorem r_X5_spell_22 {d : Nat} {P : Hp → Prop} {h : Hp} {r0 : Nat} {i1 : Int32} {i2 : Int32} {i3 : Int32} {i4 : Int32} {i5 : Int32} (H : ((i4 ≤ i5 → L_X5_spell_5 d P h r0 i1 i2 i3 (i4 + (1 : Int32))) ∧
  (¬ i4 ≤ i5 → ((¬ ((ishr i2 i3) &&& (1 : Int32)) = (1 : Int32) → CV M_X5_set d [.ref r0, .int i5, .int i4, .int (1 : Int32)] h (fun h1 => L_X5_spell_22 d P h1 r0 i1 i2 (i3 + (1 : Int32)) i4 (i5 + (1 : Int32)))) ∧
    (((ishr i2 i3) &&& (1 : Int32)) = (1 : Int32) → CV M_X5_set d [.ref r0, .int i5, .int i4, .int (-1 : Int32)] h (fun h2 => L_X5_spell_22 d P h2 r0 i1 i2 (i3 + (1 : Int32)) i4 (i5 + (1 : Int32)))))))) : L_X5_spell_22 d P h r0 i1 i2 i3 i4 i5 := by
  show X (KM (none) (fun r h' => r = none ∧ P h')) RX5 cX5_spell 6 (d + 1) h 22 [(0, .ref r0), (1, .int i1), (2, .int i2), (3, .int i3), (4, .int i4), (5, .int i5)] []
  refine x_iload dX5_spell_22 5 rfl ?_
  refine x_iload dX5_spell_24 4 rfl ?_
  refine x_icmp_ge (tgt := 60) dX5_spell_26 (by decide) (fun c => ?_) (fun c => ?_)
  · replace H := H.1 c
    refine x_iinc (q := 4) (v := (i4 + (1 : Int32))) dX5_spell_60 rfl rfl (by decide) (lv' := [(4, .int (i4 + (1 : Int32))), (0, .ref r0), (1, .int i1), (2, .int i2), (3, .int i3), (5, .int i5)]) rfl ?_
    refine x_goto (tgt := 5) dX5_spell_63 (by decide) ?_
    refine x_perm [1, 2, 3, 4, 0] rfl ?_
    exact H
  · replace H := H.2 c
    refine x_aload_n dX5_spell_29 rfl 0 rfl ?_
    refine x_iload dX5_spell_30 5 rfl ?_
    refine x_iload dX5_spell_32 4 rfl ?_
    refine x_iload_n dX5_spell_34 rfl 2 rfl ?_
    refine x_iload_n dX5_spell_35 rfl 3 rfl ?_
    refine x_ishr dX5_spell_36 ?_
    refine x_iconst (v := (1 : Int32)) dX5_spell_37 (by decide) ?_
    refine x_iand dX5_spell_38 ?_
    refine x_iconst (v := (1 : Int32)) dX5_spell_39 (by decide) ?_
    refine x_icmp_ne (tgt := 47) dX5_spell_40 (by decide) (fun c => ?_) (fun c => ?_)
    · replace H := H.1 c
      refine x_iconst (v := (1 : Int32)) dX5_spell_47 (by decide) ?_
      refine x_vV vl_X5_65 dX5_spell_48 (As := [.int i5, .int i4, .int (1 : Int32)]) rfl rfl (Nat.le_of_ble_eq_true rfl) (CV.mono H (fun h1 H => ?_))
      refine x_iinc (q := 3) (v := (i3 + (1 : Int32))) dX5_spell_51 rfl rfl (by decide) (lv' := [(3, .int (i3 + (1 : Int32))), (0, .ref r0), (1, .int i1), (2, .int i2), (4, .int i4), (5, .int i5)]) rfl ?_
      refine x_iinc (q := 5) (v := (i5 + (1 : Int32))) dX5_spell_54 rfl rfl (by decide) (lv' := [(5, .int (i5 + (1 : Int32))), (3, .int (i3 + (1 : Int32))), (0, .ref r0), (1, .int i1), (2, .int i2), (4, .int i4)]) rfl ?_
      refine x_goto (tgt := 22) dX5_spell_57 (by decide) ?_
      refine x_perm [2, 3, 4, 1, 5, 0] rfl ?_
      exact H
    · replace H := H.2 c
      refine x_iconst (v := (-1 : Int32)) dX5_spell_43 (by decide) ?_
      refine x_goto (tgt := 48) dX5_spell_44 (by decide) ?_
      refine x_vV vl_X5_65 dX5_spell_48 (As := [.int i5, .int i4, .int (-1 : Int32)]) rfl rfl (Nat.le_of_ble_eq_true rfl) (CV.mono H (fun h2 H => ?_))
      refine x_iinc (q := 3) (v := (i3 + (1 : Int32))) dX5_spell_51 rfl rfl (by decide) (lv' := [(3, .int (i3 + (1 : Int32))), (0, .ref r0), (1, .int i1), (2, .int i2), (4, .int i4), (5, .int i5)]) rfl ?_
      refine x_iinc (q := 5) (v := (i5 + (1 : Int32))) dX5_spell_54 rfl rfl (by decide) (lv' := [(5, .int (i5 + (1 : Int32))), (3, .int (i3 + (1 : Int32))), (0, .ref r0), (1, .int i1), (2, .int i2), (4, .int i4)]) rfl ?_
      refine x_goto (tgt := 22) dX5_spell_57 (by decide) ?_
      refine x_perm [2, 3, 4, 1, 5, 0] rfl ?_
      exact H
def L_X5_plain_23 (d : Nat) (P : Int32 → Hp → Prop) (h : Hp) (r0 : Nat) (i1 : Int32) (i2 : Int32) : Prop := X (KM (some .int) (fun r h' => ∃ x, r = some (.int x) ∧ P x h')) RX5 cX5_plain 6 (d + 1) h 23 [(0, .ref r0), (1, .int i1), (2, .int i2)] []
def L_X5_plain_60 (d : Nat) (P : Int32 → Hp → Prop) (h : Hp) (r0 : Nat) (i2 : Int32) (i3 : Int32) : Prop := X (KM (some .int) (fun r h' => ∃ x, r = some (.int x) ∧ P x h')) RX5 cX5_plain 6 (d + 1) h 60 [(0, .ref r0), (2, .int i2), (3, .int i3)] []
def L_X5_plain_74 (d : Nat) (P : Int32 → Hp → Prop) (h : Hp) (r0 : Nat) (i2 : Int32) (i3 : Int32) (i4 : Int32) (i5 : Int32) : Prop := X (KM (some .int) (fun r h' => ∃ x, r = some (.int x) ∧ P x h')) RX5 cX5_plain 6 (d + 1) h 74 [(0, .ref r0), (2, .int i2), (3, .int i3), (4, .int i4), (5, .int i5)] []
set_option maxRecDepth 20000 in
theorem e_X5_plain {d : Nat} {P : Int32 → Hp → Prop} {h : Hp} {r0 : Nat} (ho : r0 < 47 ∧ ∃ fs, h r0 = .inr (5, fs)) (H : ∃ x1, gI h 5 r0 0 = some x1 ∧ ((x1 ≤ (7 : Int32) → ∃ x2, gI h 5 r0 0 = some x2 ∧ CI M_X5_nameOf d [.ref r0, .int x2] h (fun x4 h3 => L_X5_plain_23 d P h3 r0 x4 (0 : Int32))) ∧
  (¬ x1 ≤ (7 : Int32) → P (-3 : Int32) h))) : CI M_X5_plain (d + 1) [.ref r0] h P := by
  refine ⟨⟨r0, rfl, ho⟩, x_enter (by decide) (Nat.le_of_ble_eq_true rfl) ?_⟩
  show X (KM (some .int) (fun r h' => ∃ x, r = some (.int x) ∧ P x h')) RX5 cX5_plain 6 (d + 1) h 0 [(0, .ref r0)] []
  refine x_aload_n dX5_plain_0 rfl 0 rfl ?_
  obtain ⟨x1, ex1, H⟩ := H
  refine x_getI fl_X5_58 dX5_plain_1 ex1 ?_
  refine x_bipush (v := (7 : Int32)) dX5_plain_4 (by decide) ?_
  refine x_icmp_le (tgt := 12) dX5_plain_6 (by decide) (fun c => ?_) (fun c => ?_)
  · replace H := H.1 c
    refine x_aload_n dX5_plain_12 rfl 0 rfl ?_
    refine x_aload_n dX5_plain_13 rfl 0 rfl ?_
    obtain ⟨x2, ex2, H⟩ := H
    refine x_getI fl_X5_58 dX5_plain_14 ex2 ?_
    refine x_vI vl_X5_115 dX5_plain_17 (As := [.int x2]) rfl rfl (Nat.le_of_ble_eq_true rfl) (CI.mono H (fun x4 h3 H => ?_))
    refine x_istore_n dX5_plain_20 rfl (by decide) (lv' := [(1, .int x4), (0, .ref r0)]) rfl ?_
    refine x_iconst (v := (0 : Int32)) dX5_plain_21 (by decide) ?_
    refine x_istore_n dX5_plain_22 rfl (by decide) (lv' := [(2, .int (0 : Int32)), (1, .int x4), (0, .ref r0)]) rfl ?_
    refine x_perm [2, 1, 0] rfl ?_
    exact H
  · replace H := H.2 c
    refine x_bipush (v := (-3 : Int32)) dX5_plain_9 (by decide) ?_
    exact x_iret dX5_plain_11 ⟨_, rfl, H⟩
set_option maxRecDepth 20000 in
theorem r_X5_plain_23 {d : Nat} {P : Int32 → Hp → Prop} {h : Hp} {r0 : Nat} {i1 : Int32} {i2 : Int32} (H : (((100 : Int32) ≤ i2 → ∃ x1, gI h 5 r0 0 = some x1 ∧ CV M_X5_spell d [.ref r0, .int x1, .int i1] h (fun h2 => L_X5_plain_60 d P h2 r0 (0 : Int32) (0 : Int32))) ∧
  (¬ (100 : Int32) ≤ i2 → ∃ q3, gR h 5 r0 10 = some q3 ∧ ∃ q4, gR h 5 r0 1 = some q4 ∧ ∃ x5, lI h q4 i2 = some x5 ∧ ∃ h6, sI h q3 i2 x5 = some h6 ∧ L_X5_plain_23 d P h6 r0 i1 (i2 + (1 : Int32))))) : L_X5_plain_23 d P h r0 i1 i2 := by
  show X (KM (some .int) (fun r h' => ∃ x, r = some (.int x) ∧ P x h')) RX5 cX5_plain 6 (d + 1) h 23 [(0, .ref r0), (1, .int i1), (2, .int i2)] []
  refine x_iload_n dX5_plain_23 rfl 2 rfl ?_
  refine x_bipush (v := (100 : Int32)) dX5_plain_24 (by decide) ?_
  refine x_icmp_ge (tgt := 47) dX5_plain_26 (by decide) (fun c => ?_) (fun c => ?_)
  · replace H := H.1 c
    refine x_aload_n dX5_plain_47 rfl 0 rfl ?_
    refine x_aload_n dX5_plain_48 rfl 0 rfl ?_
    obtain ⟨x1, ex1, H⟩ := H
    refine x_getI fl_X5_58 dX5_plain_49 ex1 ?_
    refine x_iload_n dX5_plain_52 rfl 1 rfl ?_
    refine x_vV vl_X5_118 dX5_plain_53 (As := [.int x1, .int i1]) rfl rfl (Nat.le_of_ble_eq_true rfl) (CV.mono H (fun h2 H => ?_))
    refine x_iconst (v := (0 : Int32)) dX5_plain_56 (by decide) ?_
    refine x_istore_n dX5_plain_57 rfl (by decide) (lv' := [(2, .int (0 : Int32)), (0, .ref r0), (1, .int i1)]) rfl ?_
    refine x_iconst (v := (0 : Int32)) dX5_plain_58 (by decide) ?_
    refine x_istore_n dX5_plain_59 rfl (by decide) (lv' := [(3, .int (0 : Int32)), (2, .int (0 : Int32)), (0, .ref r0), (1, .int i1)]) rfl ?_
    refine x_perm [2, 1, 0] rfl ?_
    exact H
  · replace H := H.2 c
    refine x_aload_n dX5_plain_29 rfl 0 rfl ?_
    obtain ⟨q3, eq3, H⟩ := H
    refine x_getR fl_X5_39 dX5_plain_30 eq3 ?_
    refine x_iload_n dX5_plain_33 rfl 2 rfl ?_
    refine x_aload_n dX5_plain_34 rfl 0 rfl ?_
    obtain ⟨q4, eq4, H⟩ := H
    refine x_getR fl_X5_7 dX5_plain_35 eq4 ?_
    refine x_iload_n dX5_plain_38 rfl 2 rfl ?_
    obtain ⟨x5, ex5, H⟩ := H
    refine x_iaload dX5_plain_39 ex5 ?_
    obtain ⟨h6, eh6, H⟩ := H
    refine x_iastore dX5_plain_40 eh6 ?_
    refine x_iinc (q := 2) (v := (i2 + (1 : Int32))) dX5_plain_41 rfl rfl (by decide) (lv' := [(2, .int (i2 + (1 : Int32))), (0, .ref r0), (1, .int i1)]) rfl ?_
    refine x_goto (tgt := 23) dX5_plain_44 (by decide) ?_
    refine x_perm [1, 2, 0] rfl ?_
    exact H
set_option maxRecDepth 20000 in
theorem r_X5_plain_60 {d : Nat} {P : Int32 → Hp → Prop} {h : Hp} {r0 : Nat} {i2 : Int32} {i3 : Int32} (H : ∃ x1, gI h 5 r0 0 = some x1 ∧ ((x1 ≤ i3 → P i2 h) ∧
  (¬ x1 ≤ i3 → L_X5_plain_74 d P h r0 i2 i3 (0 : Int32) (0 : Int32)))) : L_X5_plain_60 d P h r0 i2 i3 := by
  show X (KM (some .int) (fun r h' => ∃ x, r = some (.int x) ∧ P x h')) RX5 cX5_plain 6 (d + 1) h 60 [(0, .ref r0), (2, .int i2), (3, .int i3)] []
  refine x_iload_n dX5_plain_60 rfl 2 rfl ?_
  refine x_aload_n dX5_plain_61 rfl 0 rfl ?_
  obtain ⟨x1, ex1, H⟩ := H
  refine x_getI fl_X5_58 dX5_plain_62 ex1 ?_
  refine x_icmp_ge (tgt := 145) dX5_plain_65 (by decide) (fun c => ?_) (fun c => ?_)
  · replace H := H.1 c
    refine x_iload_n dX5_plain_145 rfl 1 rfl ?_
    exact x_iret dX5_plain_146 ⟨_, rfl, H⟩
  · replace H := H.2 c
    refine x_iconst (v := (0 : Int32)) dX5_plain_68 (by decide) ?_
    refine x_istore dX5_plain_69 (by decide) (lv' := [(4, .int (0 : Int32)), (0, .ref r0), (2, .int i2), (3, .int i3)]) rfl ?_
    refine x_iconst (v := (0 : Int32)) dX5_plain_71 (by decide) ?_
    refine x_istore dX5_plain_72 (by decide) (lv' := [(5, .int (0 : Int32)), (4, .int (0 : Int32)), (0, .ref r0), (2, .int i2), (3, .int i3)]) rfl ?_
    refine x_perm [2, 3, 4, 1, 0] rfl ?_
    exact H
set_option maxRecDepth 20000 in
theorem r_X5_plain_74 {d : Nat} {P : Int32 → Hp → Prop} {h : Hp} {r0 : Nat} {i2 : Int32} {i3 : Int32} {i4 : Int32} {i5 : Int32} (H : ∃ x1, gI h 5 r0 0 = some x1 ∧ ((x1 ≤ i5 → ((i4 = 0 → L_X5_plain_60 d P h r0 (i2 + (0 : Int32)) (i3 + (1 : Int32))) ∧
    (¬ i4 = 0 → L_X5_plain_60 d P h r0 (i2 + (1 : Int32)) (i3 + (1 : Int32))))) ∧
  (¬ x1 ≤ i5 → ∃ q2, gR h 5 r0 10 = some q2 ∧ ∃ x3, lI h q2 (((10 : Int32) * i3) + i5) = some x3 ∧ ∃ q4, gR h 5 r0 1 = some q4 ∧ ∃ x5, lI h q4 (((10 : Int32) * i3) + i5) = some x5 ∧ ((x3 = x5 → L_X5_plain_74 d P h r0 i2 i3 (i4 ||| (0 : Int32)) (i5 + (1 : Int32))) ∧
    (¬ x3 = x5 → L_X5_plain_74 d P h r0 i2 i3 (i4 ||| (1 : Int32)) (i5 + (1 : Int32))))))) : L_X5_plain_74 d P h r0 i2 i3 i4 i5 := by
  show X (KM (some .int) (fun r h' => ∃ x, r = some (.int x) ∧ P x h')) RX5 cX5_plain 6 (d + 1) h 74 [(0, .ref r0), (2, .int i2), (3, .int i3), (4, .int i4), (5, .int i5)] []
  refine x_iload dX5_plain_74 4 rfl ?_
  refine x_aload_n dX5_plain_76 rfl 0 rfl ?_
  obtain ⟨x1, ex1, H⟩ := H
  refine x_getI fl_X5_58 dX5_plain_77 ex1 ?_
  refine x_icmp_ge (tgt := 126) dX5_plain_80 (by decide) (fun c => ?_) (fun c => ?_)
  · replace H := H.1 c
    refine x_iload_n dX5_plain_126 rfl 1 rfl ?_
    refine x_iload dX5_plain_127 3 rfl ?_
    refine x_if_eq (tgt := 136) dX5_plain_129 (by decide) (fun c => ?_) (fun c => ?_)
    · replace H := H.1 c
      refine x_iconst (v := (0 : Int32)) dX5_plain_136 (by decide) ?_
      refine x_iadd dX5_plain_137 ?_
      refine x_istore_n dX5_plain_138 rfl (by decide) (lv' := [(2, .int (i2 + (0 : Int32))), (0, .ref r0), (3, .int i3), (4, .int i4), (5, .int i5)]) rfl ?_
      refine x_iinc (q := 2) (v := (i3 + (1 : Int32))) dX5_plain_139 rfl rfl (by decide) (lv' := [(3, .int (i3 + (1 : Int32))), (2, .int (i2 + (0 : Int32))), (0, .ref r0), (4, .int i4), (5, .int i5)]) rfl ?_
      refine x_goto (tgt := 60) dX5_plain_142 (by decide) ?_
      refine x_perm [2, 1, 0] rfl ?_
      exact H
    · replace H := H.2 c
      refine x_iconst (v := (1 : Int32)) dX5_plain_132 (by decide) ?_
      refine x_goto (tgt := 137) dX5_plain_133 (by decide) ?_
      refine x_iadd dX5_plain_137 ?_
      refine x_istore_n dX5_plain_138 rfl (by decide) (lv' := [(2, .int (i2 + (1 : Int32))), (0, .ref r0), (3, .int i3), (4, .int i4), (5, .int i5)]) rfl ?_
      refine x_iinc (q := 2) (v := (i3 + (1 : Int32))) dX5_plain_139 rfl rfl (by decide) (lv' := [(3, .int (i3 + (1 : Int32))), (2, .int (i2 + (1 : Int32))), (0, .ref r0), (4, .int i4), (5, .int i5)]) rfl ?_
      refine x_goto (tgt := 60) dX5_plain_142 (by decide) ?_
      refine x_perm [2, 1, 0] rfl ?_
      exact H
  · replace H := H.2 c
    refine x_iload dX5_plain_83 3 rfl ?_
    refine x_aload_n dX5_plain_85 rfl 0 rfl ?_
    obtain ⟨q2, eq2, H⟩ := H
    refine x_getR fl_X5_39 dX5_plain_86 eq2 ?_
    refine x_bipush (v := (10 : Int32)) dX5_plain_89 (by decide) ?_
    refine x_iload_n dX5_plain_91 rfl 2 rfl ?_
    refine x_imul dX5_plain_92 ?_
    refine x_iload dX5_plain_93 4 rfl ?_
    refine x_iadd dX5_plain_95 ?_
    obtain ⟨x3, ex3, H⟩ := H
    refine x_iaload dX5_plain_96 ex3 ?_
    refine x_aload_n dX5_plain_97 rfl 0 rfl ?_
    obtain ⟨q4, eq4, H⟩ := H
    refine x_getR fl_X5_7 dX5_plain_98 eq4 ?_
    refine x_bipush (v := (10 : Int32)) dX5_plain_101 (by decide) ?_
    refine x_iload_n dX5_plain_103 rfl 2 rfl ?_
    refine x_imul dX5_plain_104 ?_
    refine x_iload dX5_plain_105 4 rfl ?_
    refine x_iadd dX5_plain_107 ?_
    obtain ⟨x5, ex5, H⟩ := H
    refine x_iaload dX5_plain_108 ex5 ?_
    refine x_icmp_eq (tgt := 116) dX5_plain_109 (by decide) (fun c => ?_) (fun c => ?_)
    · replace H := H.1 c
      refine x_iconst (v := (0 : Int32)) dX5_plain_116 (by decide) ?_
      refine x_ior dX5_plain_117 ?_
      refine x_istore dX5_plain_118 (by decide) (lv' := [(4, .int (i4 ||| (0 : Int32))), (0, .ref r0), (2, .int i2), (3, .int i3), (5, .int i5)]) rfl ?_
      refine x_iinc (q := 4) (v := (i5 + (1 : Int32))) dX5_plain_120 rfl rfl (by decide) (lv' := [(5, .int (i5 + (1 : Int32))), (4, .int (i4 ||| (0 : Int32))), (0, .ref r0), (2, .int i2), (3, .int i3)]) rfl ?_
      refine x_goto (tgt := 74) dX5_plain_123 (by decide) ?_
      refine x_perm [2, 3, 4, 1, 0] rfl ?_
      exact H
    · replace H := H.2 c
      refine x_iconst (v := (1 : Int32)) dX5_plain_112 (by decide) ?_
      refine x_goto (tgt := 117) dX5_plain_113 (by decide) ?_
      refine x_ior dX5_plain_117 ?_
      refine x_istore dX5_plain_118 (by decide) (lv' := [(4, .int (i4 ||| (1 : Int32))), (0, .ref r0), (2, .int i2), (3, .int i3), (5, .int i5)]) rfl ?_
      refine x_iinc (q := 4) (v := (i5 + (1 : Int32))) dX5_plain_120 rfl rfl (by decide) (lv' := [(5, .int (i5 + (1 : Int32))), (4, .int (i4 ||| (1 : Int32))), (0, .ref r0), (2, .int i2), (3, .int i3)]) rfl ?_
      refine x_goto (tgt := 74) dX5_plain_123 (by decide) ?_
      refine x_perm [2, 3, 4, 1, 0] rfl ?_
      exact H
def L_X5_group_31 (d : Nat) (P : Int32 → Hp → Prop) (h : Hp) (r0 : Nat) (i1 : Int32) (i2 : Int32) : Prop := X (KM (some .int) (fun r h' => ∃ x, r = some (.int x) ∧ P x h')) RX5 cX5_group 3 (d + 1) h 31 [(0, .ref r0), (1, .int i1), (2, .int i2)] []
set_option maxRecDepth 20000 in
theorem e_X5_group {d : Nat} {P : Int32 → Hp → Prop} {h : Hp} {r0 : Nat} (ho : r0 < 47 ∧ ∃ fs, h r0 = .inr (5, fs)) (H : ∃ x1, gI h 5 r0 0 = some x1 ∧ ((x1 ≤ (7 : Int32) → ∃ x2, gI h 5 r0 0 = some x2 ∧ CV M_X5_begin d [.ref r0, .int x2] h (fun h3 => ∃ x4, gI h3 5 r0 0 = some x4 ∧ CI M_X5_codeOf d [.ref r0, .int x4] h3 (fun x6 h5 => L_X5_group_31 d P h5 r0 x6 (1 : Int32)))) ∧
  (¬ x1 ≤ (7 : Int32) → P (-3 : Int32) h))) : CI M_X5_group (d + 1) [.ref r0] h P := by
  refine ⟨⟨r0, rfl, ho⟩, x_enter (by decide) (Nat.le_of_ble_eq_true rfl) ?_⟩
  show X (KM (some .int) (fun r h' => ∃ x, r = some (.int x) ∧ P x h')) RX5 cX5_group 3 (d + 1) h 0 [(0, .ref r0)] []
  refine x_aload_n dX5_group_0 rfl 0 rfl ?_
  obtain ⟨x1, ex1, H⟩ := H
  refine x_getI fl_X5_58 dX5_group_1 ex1 ?_
  refine x_bipush (v := (7 : Int32)) dX5_group_4 (by decide) ?_
  refine x_icmp_le (tgt := 12) dX5_group_6 (by decide) (fun c => ?_) (fun c => ?_)
  · replace H := H.1 c
    refine x_aload_n dX5_group_12 rfl 0 rfl ?_
    refine x_aload_n dX5_group_13 rfl 0 rfl ?_
    obtain ⟨x2, ex2, H⟩ := H
    refine x_getI fl_X5_58 dX5_group_14 ex2 ?_
    refine x_vV vl_X5_105 dX5_group_17 (As := [.int x2]) rfl rfl (Nat.le_of_ble_eq_true rfl) (CV.mono H (fun h3 H => ?_))
    refine x_aload_n dX5_group_20 rfl 0 rfl ?_
    refine x_aload_n dX5_group_21 rfl 0 rfl ?_
    obtain ⟨x4, ex4, H⟩ := H
    refine x_getI fl_X5_58 dX5_group_22 ex4 ?_
    refine x_vI vl_X5_109 dX5_group_25 (As := [.int x4]) rfl rfl (Nat.le_of_ble_eq_true rfl) (CI.mono H (fun x6 h5 H => ?_))
    refine x_istore_n dX5_group_28 rfl (by decide) (lv' := [(1, .int x6), (0, .ref r0)]) rfl ?_
    refine x_iconst (v := (1 : Int32)) dX5_group_29 (by decide) ?_
    refine x_istore_n dX5_group_30 rfl (by decide) (lv' := [(2, .int (1 : Int32)), (1, .int x6), (0, .ref r0)]) rfl ?_
    refine x_perm [2, 1, 0] rfl ?_
    exact H
  · replace H := H.2 c
    refine x_bipush (v := (-3 : Int32)) dX5_group_9 (by decide) ?_
    exact x_iret dX5_group_11 ⟨_, rfl, H⟩
set_option maxRecDepth 20000 in
theorem r_X5_group_31 {d : Nat} {P : Int32 → Hp → Prop} {h : Hp} {r0 : Nat} {i1 : Int32} {i2 : Int32} (H : ∃ x1, gI h 5 r0 0 = some x1 ∧ CI M_X5_step d [.ref r0, .int x1] h (fun x3 h2 => ((x3 = 0 → P i2 h2) ∧
  (¬ x3 = 0 → ∃ x4, gI h2 5 r0 0 = some x4 ∧ CI M_X5_codeOf d [.ref r0, .int x4] h2 (fun x6 h5 => ((¬ x6 = i1 → L_X5_group_31 d P h5 r0 i1 (i2 + (0 : Int32))) ∧
    (x6 = i1 → L_X5_group_31 d P h5 r0 i1 (i2 + (1 : Int32))))))))) : L_X5_group_31 d P h r0 i1 i2 := by
  show X (KM (some .int) (fun r h' => ∃ x, r = some (.int x) ∧ P x h')) RX5 cX5_group 3 (d + 1) h 31 [(0, .ref r0), (1, .int i1), (2, .int i2)] []
  refine x_aload_n dX5_group_31 rfl 0 rfl ?_
  refine x_aload_n dX5_group_32 rfl 0 rfl ?_
  obtain ⟨x1, ex1, H⟩ := H
  refine x_getI fl_X5_58 dX5_group_33 ex1 ?_
  refine x_vI vl_X5_112 dX5_group_36 (As := [.int x1]) rfl rfl (Nat.le_of_ble_eq_true rfl) (CI.mono H (fun x3 h2 H => ?_))
  refine x_if_eq (tgt := 65) dX5_group_39 (by decide) (fun c => ?_) (fun c => ?_)
  · replace H := H.1 c
    refine x_iload_n dX5_group_65 rfl 2 rfl ?_
    exact x_iret dX5_group_66 ⟨_, rfl, H⟩
  · replace H := H.2 c
    refine x_iload_n dX5_group_42 rfl 2 rfl ?_
    refine x_aload_n dX5_group_43 rfl 0 rfl ?_
    refine x_aload_n dX5_group_44 rfl 0 rfl ?_
    obtain ⟨x4, ex4, H⟩ := H
    refine x_getI fl_X5_58 dX5_group_45 ex4 ?_
    refine x_vI vl_X5_109 dX5_group_48 (As := [.int x4]) rfl rfl (Nat.le_of_ble_eq_true rfl) (CI.mono H (fun x6 h5 H => ?_))
    refine x_iload_n dX5_group_51 rfl 1 rfl ?_
    refine x_icmp_ne (tgt := 59) dX5_group_52 (by decide) (fun c => ?_) (fun c => ?_)
    · replace H := H.1 c
      refine x_iconst (v := (0 : Int32)) dX5_group_59 (by decide) ?_
      refine x_iadd dX5_group_60 ?_
      refine x_istore_n dX5_group_61 rfl (by decide) (lv' := [(2, .int (i2 + (0 : Int32))), (0, .ref r0), (1, .int i1)]) rfl ?_
      refine x_goto (tgt := 31) dX5_group_62 (by decide) ?_
      refine x_perm [1, 2, 0] rfl ?_
      exact H
    · replace H := H.2 c
      refine x_iconst (v := (1 : Int32)) dX5_group_55 (by decide) ?_
      refine x_goto (tgt := 60) dX5_group_56 (by decide) ?_
      refine x_iadd dX5_group_60 ?_
      refine x_istore_n dX5_group_61 rfl (by decide) (lv' := [(2, .int (i2 + (1 : Int32))), (0, .ref r0), (1, .int i1)]) rfl ?_
      refine x_goto (tgt := 31) dX5_group_62 (by decide) ?_
      refine x_perm [1, 2, 0] rfl ?_
      exact H
def L_X5_kinds_14 (d : Nat) (P : Int32 → Hp → Prop) (h : Hp) (r0 : Nat) (i1 : Int32) (i2 : Int32) : Prop := X (KM (some .int) (fun r h' => ∃ x, r = some (.int x) ∧ P x h')) RX5 cX5_kinds 4 (d + 1) h 14 [(0, .ref r0), (1, .int i1), (2, .int i2)] []
def L_X5_kinds_42 (d : Nat) (P : Int32 → Hp → Prop) (h : Hp) (r0 : Nat) (i1 : Int32) (i2 : Int32) (i3 : Int32) : Prop := X (KM (some .int) (fun r h' => ∃ x, r = some (.int x) ∧ P x h')) RX5 cX5_kinds 4 (d + 1) h 42 [(0, .ref r0), (1, .int i1), (2, .int i2), (3, .int i3)] []
def L_X5_kinds_88 (d : Nat) (P : Int32 → Hp → Prop) (h : Hp) (r0 : Nat) (i2 : Int32) (i3 : Int32) : Prop := X (KM (some .int) (fun r h' => ∃ x, r = some (.int x) ∧ P x h')) RX5 cX5_kinds 4 (d + 1) h 88 [(0, .ref r0), (2, .int i2), (3, .int i3)] []
set_option maxRecDepth 20000 in
theorem e_X5_kinds {d : Nat} {P : Int32 → Hp → Prop} {h : Hp} {r0 : Nat} {i1 : Int32} (ho : r0 < 47 ∧ ∃ fs, h r0 = .inr (5, fs)) (H : CI M_X5_in d [.int i1, .int (1 : Int32), .int (5 : Int32)] h (fun x2 h1 => ((¬ x2 = 0 → L_X5_kinds_14 d P h1 r0 i1 (0 : Int32)) ∧
  (x2 = 0 → P (-2 : Int32) h1)))) : CI M_X5_kinds (d + 1) [.ref r0, .int i1] h P := by
  refine ⟨⟨r0, rfl, ho⟩, x_enter (by decide) (Nat.le_of_ble_eq_true rfl) ?_⟩
  show X (KM (some .int) (fun r h' => ∃ x, r = some (.int x) ∧ P x h')) RX5 cX5_kinds 4 (d + 1) h 0 [(0, .ref r0), (1, .int i1)] []
  refine x_iload_n dX5_kinds_0 rfl 1 rfl ?_
  refine x_iconst (v := (1 : Int32)) dX5_kinds_1 (by decide) ?_
  refine x_iconst (v := (5 : Int32)) dX5_kinds_2 (by decide) ?_
  refine x_sI sl_X5_61 dX5_kinds_3 (As := [.int i1, .int (1 : Int32), .int (5 : Int32)]) rfl rfl (Nat.le_of_ble_eq_true rfl) (CI.mono H (fun x2 h1 H => ?_))
  refine x_if_ne (tgt := 12) dX5_kinds_6 (by decide) (fun c => ?_) (fun c => ?_)
  · replace H := H.1 c
    refine x_iconst (v := (0 : Int32)) dX5_kinds_12 (by decide) ?_
    refine x_istore_n dX5_kinds_13 rfl (by decide) (lv' := [(2, .int (0 : Int32)), (0, .ref r0), (1, .int i1)]) rfl ?_
    refine x_perm [1, 2, 0] rfl ?_
    exact H
  · replace H := H.2 c
    refine x_bipush (v := (-2 : Int32)) dX5_kinds_9 (by decide) ?_
    exact x_iret dX5_kinds_11 ⟨_, rfl, H⟩
set_option maxRecDepth 20000 in
theorem r_X5_kinds_14 {d : Nat} {P : Int32 → Hp → Prop} {h : Hp} {r0 : Nat} {i1 : Int32} {i2 : Int32} (H : (((100 : Int32) ≤ i2 → L_X5_kinds_42 d P h r0 i1 (0 : Int32) (0 : Int32)) ∧
  (¬ (100 : Int32) ≤ i2 → ∃ q1, gR h 5 r0 10 = some q1 ∧ ∃ q2, gR h 5 r0 1 = some q2 ∧ ∃ x3, lI h q2 i2 = some x3 ∧ ∃ h4, sI h q1 i2 x3 = some h4 ∧ L_X5_kinds_14 d P h4 r0 i1 (i2 + (1 : Int32))))) : L_X5_kinds_14 d P h r0 i1 i2 := by
  show X (KM (some .int) (fun r h' => ∃ x, r = some (.int x) ∧ P x h')) RX5 cX5_kinds 4 (d + 1) h 14 [(0, .ref r0), (1, .int i1), (2, .int i2)] []
  refine x_iload_n dX5_kinds_14 rfl 2 rfl ?_
  refine x_bipush (v := (100 : Int32)) dX5_kinds_15 (by decide) ?_
  refine x_icmp_ge (tgt := 38) dX5_kinds_17 (by decide) (fun c => ?_) (fun c => ?_)
  · replace H := H.1 c
    refine x_iconst (v := (0 : Int32)) dX5_kinds_38 (by decide) ?_
    refine x_istore_n dX5_kinds_39 rfl (by decide) (lv' := [(2, .int (0 : Int32)), (0, .ref r0), (1, .int i1)]) rfl ?_
    refine x_iconst (v := (0 : Int32)) dX5_kinds_40 (by decide) ?_
    refine x_istore_n dX5_kinds_41 rfl (by decide) (lv' := [(3, .int (0 : Int32)), (2, .int (0 : Int32)), (0, .ref r0), (1, .int i1)]) rfl ?_
    refine x_perm [2, 3, 1, 0] rfl ?_
    exact H
  · replace H := H.2 c
    refine x_aload_n dX5_kinds_20 rfl 0 rfl ?_
    obtain ⟨q1, eq1, H⟩ := H
    refine x_getR fl_X5_39 dX5_kinds_21 eq1 ?_
    refine x_iload_n dX5_kinds_24 rfl 2 rfl ?_
    refine x_aload_n dX5_kinds_25 rfl 0 rfl ?_
    obtain ⟨q2, eq2, H⟩ := H
    refine x_getR fl_X5_7 dX5_kinds_26 eq2 ?_
    refine x_iload_n dX5_kinds_29 rfl 2 rfl ?_
    obtain ⟨x3, ex3, H⟩ := H
    refine x_iaload dX5_kinds_30 ex3 ?_
    obtain ⟨h4, eh4, H⟩ := H
    refine x_iastore dX5_kinds_31 eh4 ?_
    refine x_iinc (q := 2) (v := (i2 + (1 : Int32))) dX5_kinds_32 rfl rfl (by decide) (lv' := [(2, .int (i2 + (1 : Int32))), (0, .ref r0), (1, .int i1)]) rfl ?_
    refine x_goto (tgt := 14) dX5_kinds_35 (by decide) ?_
    refine x_perm [1, 2, 0] rfl ?_
    exact H
set_option maxRecDepth 20000 in
theorem r_X5_kinds_42 {d : Nat} {P : Int32 → Hp → Prop} {h : Hp} {r0 : Nat} {i1 : Int32} {i2 : Int32} {i3 : Int32} (H : (((ishl (1 : Int32) (((i1 - (1 : Int32)) * (i1 - (2 : Int32))) / (2 : Int32))) ≤ i3 → L_X5_kinds_88 d P h r0 i2 (0 : Int32)) ∧
  (¬ (ishl (1 : Int32) (((i1 - (1 : Int32)) * (i1 - (2 : Int32))) / (2 : Int32))) ≤ i3 → CV M_X5_spell d [.ref r0, .int i1, .int i3] h (fun h1 => CI M_X5_nameOf d [.ref r0, .int i1] h1 (fun x3 h2 => ((¬ x3 = i3 → L_X5_kinds_42 d P h2 r0 i1 (i2 + (0 : Int32)) (i3 + (1 : Int32))) ∧
    (x3 = i3 → L_X5_kinds_42 d P h2 r0 i1 (i2 + (1 : Int32)) (i3 + (1 : Int32))))))))) : L_X5_kinds_42 d P h r0 i1 i2 i3 := by
  show X (KM (some .int) (fun r h' => ∃ x, r = some (.int x) ∧ P x h')) RX5 cX5_kinds 4 (d + 1) h 42 [(0, .ref r0), (1, .int i1), (2, .int i2), (3, .int i3)] []
  refine x_iload_n dX5_kinds_42 rfl 3 rfl ?_
  refine x_iconst (v := (1 : Int32)) dX5_kinds_43 (by decide) ?_
  refine x_iload_n dX5_kinds_44 rfl 1 rfl ?_
  refine x_iconst (v := (1 : Int32)) dX5_kinds_45 (by decide) ?_
  refine x_isub dX5_kinds_46 ?_
  refine x_iload_n dX5_kinds_47 rfl 1 rfl ?_
  refine x_iconst (v := (2 : Int32)) dX5_kinds_48 (by decide) ?_
  refine x_isub dX5_kinds_49 ?_
  refine x_imul dX5_kinds_50 ?_
  refine x_iconst (v := (2 : Int32)) dX5_kinds_51 (by decide) ?_
  refine x_idiv dX5_kinds_52 (by decide) ?_
  refine x_ishl dX5_kinds_53 ?_
  refine x_icmp_ge (tgt := 86) dX5_kinds_54 (by decide) (fun c => ?_) (fun c => ?_)
  · replace H := H.1 c
    refine x_iconst (v := (0 : Int32)) dX5_kinds_86 (by decide) ?_
    refine x_istore_n dX5_kinds_87 rfl (by decide) (lv' := [(3, .int (0 : Int32)), (0, .ref r0), (1, .int i1), (2, .int i2)]) rfl ?_
    refine x_perm [1, 3, 0] rfl ?_
    exact H
  · replace H := H.2 c
    refine x_aload_n dX5_kinds_57 rfl 0 rfl ?_
    refine x_iload_n dX5_kinds_58 rfl 1 rfl ?_
    refine x_iload_n dX5_kinds_59 rfl 3 rfl ?_
    refine x_vV vl_X5_118 dX5_kinds_60 (As := [.int i1, .int i3]) rfl rfl (Nat.le_of_ble_eq_true rfl) (CV.mono H (fun h1 H => ?_))
    refine x_iload_n dX5_kinds_63 rfl 2 rfl ?_
    refine x_aload_n dX5_kinds_64 rfl 0 rfl ?_
    refine x_iload_n dX5_kinds_65 rfl 1 rfl ?_
    refine x_vI vl_X5_115 dX5_kinds_66 (As := [.int i1]) rfl rfl (Nat.le_of_ble_eq_true rfl) (CI.mono H (fun x3 h2 H => ?_))
    refine x_iload_n dX5_kinds_69 rfl 3 rfl ?_
    refine x_icmp_ne (tgt := 77) dX5_kinds_70 (by decide) (fun c => ?_) (fun c => ?_)
    · replace H := H.1 c
      refine x_iconst (v := (0 : Int32)) dX5_kinds_77 (by decide) ?_
      refine x_iadd dX5_kinds_78 ?_
      refine x_istore_n dX5_kinds_79 rfl (by decide) (lv' := [(2, .int (i2 + (0 : Int32))), (0, .ref r0), (1, .int i1), (3, .int i3)]) rfl ?_
      refine x_iinc (q := 3) (v := (i3 + (1 : Int32))) dX5_kinds_80 rfl rfl (by decide) (lv' := [(3, .int (i3 + (1 : Int32))), (2, .int (i2 + (0 : Int32))), (0, .ref r0), (1, .int i1)]) rfl ?_
      refine x_goto (tgt := 42) dX5_kinds_83 (by decide) ?_
      refine x_perm [2, 3, 1, 0] rfl ?_
      exact H
    · replace H := H.2 c
      refine x_iconst (v := (1 : Int32)) dX5_kinds_73 (by decide) ?_
      refine x_goto (tgt := 78) dX5_kinds_74 (by decide) ?_
      refine x_iadd dX5_kinds_78 ?_
      refine x_istore_n dX5_kinds_79 rfl (by decide) (lv' := [(2, .int (i2 + (1 : Int32))), (0, .ref r0), (1, .int i1), (3, .int i3)]) rfl ?_
      refine x_iinc (q := 3) (v := (i3 + (1 : Int32))) dX5_kinds_80 rfl rfl (by decide) (lv' := [(3, .int (i3 + (1 : Int32))), (2, .int (i2 + (1 : Int32))), (0, .ref r0), (1, .int i1)]) rfl ?_
      refine x_goto (tgt := 42) dX5_kinds_83 (by decide) ?_
      refine x_perm [2, 3, 1, 0] rfl ?_
      exact H
set_option maxRecDepth 20000 in
theorem r_X5_kinds_88 {d : Nat} {P : Int32 → Hp → Prop} {h : Hp} {r0 : Nat} {i2 : Int32} {i3 : Int32} (H : (((100 : Int32) ≤ i3 → P i2 h) ∧
  (¬ (100 : Int32) ≤ i3 → ∃ q1, gR h 5 r0 1 = some q1 ∧ ∃ q2, gR h 5 r0 10 = some q2 ∧ ∃ x3, lI h q2 i3 = some x3 ∧ ∃ h4, sI h q1 i3 x3 = some h4 ∧ L_X5_kinds_88 d P h4 r0 i2 (i3 + (1 : Int32))))) : L_X5_kinds_88 d P h r0 i2 i3 := by
  show X (KM (some .int) (fun r h' => ∃ x, r = some (.int x) ∧ P x h')) RX5 cX5_kinds 4 (d + 1) h 88 [(0, .ref r0), (2, .int i2), (3, .int i3)] []
  refine x_iload_n dX5_kinds_88 rfl 2 rfl ?_
  refine x_bipush (v := (100 : Int32)) dX5_kinds_89 (by decide) ?_
  refine x_icmp_ge (tgt := 112) dX5_kinds_91 (by decide) (fun c => ?_) (fun c => ?_)
  · replace H := H.1 c
    refine x_iload_n dX5_kinds_112 rfl 1 rfl ?_
    exact x_iret dX5_kinds_113 ⟨_, rfl, H⟩
  · replace H := H.2 c
    refine x_aload_n dX5_kinds_94 rfl 0 rfl ?_
    obtain ⟨q1, eq1, H⟩ := H
    refine x_getR fl_X5_7 dX5_kinds_95 eq1 ?_
    refine x_iload_n dX5_kinds_98 rfl 2 rfl ?_
    refine x_aload_n dX5_kinds_99 rfl 0 rfl ?_
    obtain ⟨q2, eq2, H⟩ := H
    refine x_getR fl_X5_39 dX5_kinds_100 eq2 ?_
    refine x_iload_n dX5_kinds_103 rfl 2 rfl ?_
    obtain ⟨x3, ex3, H⟩ := H
    refine x_iaload dX5_kinds_104 ex3 ?_
    obtain ⟨h4, eh4, H⟩ := H
    refine x_iastore dX5_kinds_105 eh4 ?_
    refine x_iinc (q := 2) (v := (i3 + (1 : Int32))) dX5_kinds_106 rfl rfl (by decide) (lv' := [(3, .int (i3 + (1 : Int32))), (0, .ref r0), (2, .int i2)]) rfl ?_
    refine x_goto (tgt := 88) dX5_kinds_109 (by decide) ?_
    refine x_perm [1, 2, 0] rfl ?_
    exact H
set_option maxRecDepth 20000 in
theorem e_X5_isSet {d : Nat} {P : Int32 → Hp → Prop} {h : Hp} {i0 : Int32} {i1 : Int32} (H : CI M_X5_in d [.int i0, .int (2 : Int32), .int (31 : Int32)] h (fun x2 h1 => ((x2 = 0 → P (0 : Int32) h1) ∧
  (¬ x2 = 0 → ((i1 < 0 → P (0 : Int32) h1) ∧
    (¬ i1 < 0 → ((i0 = (31 : Int32) → P (1 : Int32) h1) ∧
      (¬ i0 = (31 : Int32) → (((ishl (1 : Int32) i0) ≤ i1 → P (0 : Int32) h1) ∧
        (¬ (ishl (1 : Int32) i0) ≤ i1 → P (1 : Int32) h1)))))))))) : CI M_X5_isSet (d + 1) [.int i0, .int i1] h P := by
  refine ⟨trivial, x_enter (by decide) (Nat.le_of_ble_eq_true rfl) ?_⟩
  show X (KM (some .boolean) (fun r h' => ∃ x, r = some (.int x) ∧ P x h')) RX5 cX5_isSet 2 (d + 1) h 0 [(0, .int i0), (1, .int i1)] []
  refine x_iload_n dX5_isSet_0 rfl 0 rfl ?_
  refine x_iconst (v := (2 : Int32)) dX5_isSet_1 (by decide) ?_
  refine x_bipush (v := (31 : Int32)) dX5_isSet_2 (by decide) ?_
  refine x_sI sl_X5_61 dX5_isSet_4 (As := [.int i0, .int (2 : Int32), .int (31 : Int32)]) rfl rfl (Nat.le_of_ble_eq_true rfl) (CI.mono H (fun x2 h1 H => ?_))
  refine x_if_eq (tgt := 31) dX5_isSet_7 (by decide) (fun c => ?_) (fun c => ?_)
  · replace H := H.1 c
    refine x_iconst (v := (0 : Int32)) dX5_isSet_31 (by decide) ?_
    exact x_zret dX5_isSet_32 (by decide) ⟨_, rfl, H⟩
  · replace H := H.2 c
    refine x_iload_n dX5_isSet_10 rfl 1 rfl ?_
    refine x_if_lt (tgt := 31) dX5_isSet_11 (by decide) (fun c => ?_) (fun c => ?_)
    · replace H := H.1 c
      refine x_iconst (v := (0 : Int32)) dX5_isSet_31 (by decide) ?_
      exact x_zret dX5_isSet_32 (by decide) ⟨_, rfl, H⟩
    · replace H := H.2 c
      refine x_iload_n dX5_isSet_14 rfl 0 rfl ?_
      refine x_bipush (v := (31 : Int32)) dX5_isSet_15 (by decide) ?_
      refine x_icmp_eq (tgt := 27) dX5_isSet_17 (by decide) (fun c => ?_) (fun c => ?_)
      · replace H := H.1 c
        refine x_iconst (v := (1 : Int32)) dX5_isSet_27 (by decide) ?_
        refine x_goto (tgt := 32) dX5_isSet_28 (by decide) ?_
        exact x_zret dX5_isSet_32 (by decide) ⟨_, rfl, H⟩
      · replace H := H.2 c
        refine x_iload_n dX5_isSet_20 rfl 1 rfl ?_
        refine x_iconst (v := (1 : Int32)) dX5_isSet_21 (by decide) ?_
        refine x_iload_n dX5_isSet_22 rfl 0 rfl ?_
        refine x_ishl dX5_isSet_23 ?_
        refine x_icmp_ge (tgt := 31) dX5_isSet_24 (by decide) (fun c => ?_) (fun c => ?_)
        · replace H := H.1 c
          refine x_iconst (v := (0 : Int32)) dX5_isSet_31 (by decide) ?_
          exact x_zret dX5_isSet_32 (by decide) ⟨_, rfl, H⟩
        · replace H := H.2 c
          refine x_iconst (v := (1 : Int32)) dX5_isSet_27 (by decide) ?_
          refine x_goto (tgt := 32) dX5_isSet_28 (by decide) ?_
          exact x_zret dX5_isSet_32 (by decide) ⟨_, rfl, H⟩
def L_X5_hitsOf_5 (d : Nat) (P : Int32 → Hp → Prop) (h : Hp) (i0 : Int32) (i1 : Int32) (i2 : Int32) (i3 : Int32) (i4 : Int32) : Prop := X (KM (some .int) (fun r h' => ∃ x, r = some (.int x) ∧ P x h')) RX5 cX5_hitsOf 5 (d + 1) h 5 [(0, .int i0), (1, .int i1), (2, .int i2), (3, .int i3), (4, .int i4)] []
set_option maxRecDepth 20000 in
theorem e_X5_hitsOf {d : Nat} {P : Int32 → Hp → Prop} {h : Hp} {i0 : Int32} {i1 : Int32} {i2 : Int32} (H : L_X5_hitsOf_5 d P h i0 i1 i2 (0 : Int32) (0 : Int32)) : CI M_X5_hitsOf (d + 1) [.int i0, .int i1, .int i2] h P := by
  refine ⟨trivial, x_enter (by decide) (Nat.le_of_ble_eq_true rfl) ?_⟩
  show X (KM (some .int) (fun r h' => ∃ x, r = some (.int x) ∧ P x h')) RX5 cX5_hitsOf 5 (d + 1) h 0 [(0, .int i0), (1, .int i1), (2, .int i2)] []
  refine x_iconst (v := (0 : Int32)) dX5_hitsOf_0 (by decide) ?_
  refine x_istore_n dX5_hitsOf_1 rfl (by decide) (lv' := [(3, .int (0 : Int32)), (0, .int i0), (1, .int i1), (2, .int i2)]) rfl ?_
  refine x_iconst (v := (0 : Int32)) dX5_hitsOf_2 (by decide) ?_
  refine x_istore dX5_hitsOf_3 (by decide) (lv' := [(4, .int (0 : Int32)), (3, .int (0 : Int32)), (0, .int i0), (1, .int i1), (2, .int i2)]) rfl ?_
  refine x_perm [2, 3, 4, 1, 0] rfl ?_
  exact H
set_option maxRecDepth 20000 in
theorem r_X5_hitsOf_5 {d : Nat} {P : Int32 → Hp → Prop} {h : Hp} {i0 : Int32} {i1 : Int32} {i2 : Int32} {i3 : Int32} {i4 : Int32} (H : ((i0 ≤ i4 → P i3 h) ∧
  (¬ i0 ≤ i4 → ((¬ ((ishr i1 i4) &&& (1 : Int32)) = (1 : Int32) → L_X5_hitsOf_5 d P h i0 i1 i2 (i3 + (0 : Int32)) (i4 + (1 : Int32))) ∧
    (((ishr i1 i4) &&& (1 : Int32)) = (1 : Int32) → ¬ i0 = 0 ∧ (((¬ ((ishr i1 (irem (i4 + i2) i0)) &&& (1 : Int32)) = (1 : Int32) → L_X5_hitsOf_5 d P h i0 i1 i2 (i3 + (0 : Int32)) (i4 + (1 : Int32))) ∧
      (((ishr i1 (irem (i4 + i2) i0)) &&& (1 : Int32)) = (1 : Int32) → L_X5_hitsOf_5 d P h i0 i1 i2 (i3 + (1 : Int32)) (i4 + (1 : Int32)))))))))) : L_X5_hitsOf_5 d P h i0 i1 i2 i3 i4 := by
  show X (KM (some .int) (fun r h' => ∃ x, r = some (.int x) ∧ P x h')) RX5 cX5_hitsOf 5 (d + 1) h 5 [(0, .int i0), (1, .int i1), (2, .int i2), (3, .int i3), (4, .int i4)] []
  refine x_iload dX5_hitsOf_5 4 rfl ?_
  refine x_iload_n dX5_hitsOf_7 rfl 0 rfl ?_
  refine x_icmp_ge (tgt := 49) dX5_hitsOf_8 (by decide) (fun c => ?_) (fun c => ?_)
  · replace H := H.1 c
    refine x_iload_n dX5_hitsOf_49 rfl 3 rfl ?_
    exact x_iret dX5_hitsOf_50 ⟨_, rfl, H⟩
  · replace H := H.2 c
    refine x_iload_n dX5_hitsOf_11 rfl 3 rfl ?_
    refine x_iload_n dX5_hitsOf_12 rfl 1 rfl ?_
    refine x_iload dX5_hitsOf_13 4 rfl ?_
    refine x_ishr dX5_hitsOf_15 ?_
    refine x_iconst (v := (1 : Int32)) dX5_hitsOf_16 (by decide) ?_
    refine x_iand dX5_hitsOf_17 ?_
    refine x_iconst (v := (1 : Int32)) dX5_hitsOf_18 (by decide) ?_
    refine x_icmp_ne (tgt := 40) dX5_hitsOf_19 (by decide) (fun c => ?_) (fun c => ?_)
    · replace H := H.1 c
      refine x_iconst (v := (0 : Int32)) dX5_hitsOf_40 (by decide) ?_
      refine x_iadd dX5_hitsOf_41 ?_
      refine x_istore_n dX5_hitsOf_42 rfl (by decide) (lv' := [(3, .int (i3 + (0 : Int32))), (0, .int i0), (1, .int i1), (2, .int i2), (4, .int i4)]) rfl ?_
      refine x_iinc (q := 4) (v := (i4 + (1 : Int32))) dX5_hitsOf_43 rfl rfl (by decide) (lv' := [(4, .int (i4 + (1 : Int32))), (3, .int (i3 + (0 : Int32))), (0, .int i0), (1, .int i1), (2, .int i2)]) rfl ?_
      refine x_goto (tgt := 5) dX5_hitsOf_46 (by decide) ?_
      refine x_perm [2, 3, 4, 1, 0] rfl ?_
      exact H
    · replace H := H.2 c
      refine x_iload_n dX5_hitsOf_22 rfl 1 rfl ?_
      refine x_iload dX5_hitsOf_23 4 rfl ?_
      refine x_iload_n dX5_hitsOf_25 rfl 2 rfl ?_
      refine x_iadd dX5_hitsOf_26 ?_
      refine x_iload_n dX5_hitsOf_27 rfl 0 rfl ?_
      obtain ⟨hne, H⟩ := H
      refine x_irem dX5_hitsOf_28 hne ?_
      refine x_ishr dX5_hitsOf_29 ?_
      refine x_iconst (v := (1 : Int32)) dX5_hitsOf_30 (by decide) ?_
      refine x_iand dX5_hitsOf_31 ?_
      refine x_iconst (v := (1 : Int32)) dX5_hitsOf_32 (by decide) ?_
      refine x_icmp_ne (tgt := 40) dX5_hitsOf_33 (by decide) (fun c => ?_) (fun c => ?_)
      · replace H := H.1 c
        refine x_iconst (v := (0 : Int32)) dX5_hitsOf_40 (by decide) ?_
        refine x_iadd dX5_hitsOf_41 ?_
        refine x_istore_n dX5_hitsOf_42 rfl (by decide) (lv' := [(3, .int (i3 + (0 : Int32))), (0, .int i0), (1, .int i1), (2, .int i2), (4, .int i4)]) rfl ?_
        refine x_iinc (q := 4) (v := (i4 + (1 : Int32))) dX5_hitsOf_43 rfl rfl (by decide) (lv' := [(4, .int (i4 + (1 : Int32))), (3, .int (i3 + (0 : Int32))), (0, .int i0), (1, .int i1), (2, .int i2)]) rfl ?_
        refine x_goto (tgt := 5) dX5_hitsOf_46 (by decide) ?_
        refine x_perm [2, 3, 4, 1, 0] rfl ?_
        exact H
      · replace H := H.2 c
        refine x_iconst (v := (1 : Int32)) dX5_hitsOf_36 (by decide) ?_
        refine x_goto (tgt := 41) dX5_hitsOf_37 (by decide) ?_
        refine x_iadd dX5_hitsOf_41 ?_
        refine x_istore_n dX5_hitsOf_42 rfl (by decide) (lv' := [(3, .int (i3 + (1 : Int32))), (0, .int i0), (1, .int i1), (2, .int i2), (4, .int i4)]) rfl ?_
        refine x_iinc (q := 4) (v := (i4 + (1 : Int32))) dX5_hitsOf_43 rfl rfl (by decide) (lv' := [(4, .int (i4 + (1 : Int32))), (3, .int (i3 + (1 : Int32))), (0, .int i0), (1, .int i1), (2, .int i2)]) rfl ?_
        refine x_goto (tgt := 5) dX5_hitsOf_46 (by decide) ?_
        refine x_perm [2, 3, 4, 1, 0] rfl ?_
        exact H
set_option maxRecDepth 20000 in
theorem e_X5_hits {d : Nat} {P : Int32 → Hp → Prop} {h : Hp} {r0 : Nat} {i1 : Int32} {i2 : Int32} {i3 : Int32} (ho : r0 < 47 ∧ ∃ fs, h r0 = .inr (5, fs)) (H : CI M_X5_isSet d [.int i1, .int i2] h (fun x2 h1 => ((x2 = 0 → P (-2 : Int32) h1) ∧
  (¬ x2 = 0 → CI M_X5_in d [.int i3, .int (1 : Int32), .int (i1 - (1 : Int32))] h1 (fun x4 h3 => ((x4 = 0 → P (-2 : Int32) h3) ∧
    (¬ x4 = 0 → CI M_X5_hitsOf d [.int i1, .int i2, .int i3] h3 (fun x6 h5 => P x6 h5)))))))) : CI M_X5_hits (d + 1) [.ref r0, .int i1, .int i2, .int i3] h P := by
  refine ⟨⟨r0, rfl, ho⟩, x_enter (by decide) (Nat.le_of_ble_eq_true rfl) ?_⟩
  show X (KM (some .int) (fun r h' => ∃ x, r = some (.int x) ∧ P x h')) RX5 cX5_hits 4 (d + 1) h 0 [(0, .ref r0), (1, .int i1), (2, .int i2), (3, .int i3)] []
  refine x_iload_n dX5_hits_0 rfl 1 rfl ?_
  refine x_iload_n dX5_hits_1 rfl 2 rfl ?_
  refine x_sI sl_X5_121 dX5_hits_2 (As := [.int i1, .int i2]) rfl rfl (Nat.le_of_ble_eq_true rfl) (CI.mono H (fun x2 h1 H => ?_))
  refine x_if_eq (tgt := 28) dX5_hits_5 (by decide) (fun c => ?_) (fun c => ?_)
  · replace H := H.1 c
    refine x_bipush (v := (-2 : Int32)) dX5_hits_28 (by decide) ?_
    exact x_iret dX5_hits_30 ⟨_, rfl, H⟩
  · replace H := H.2 c
    refine x_iload_n dX5_hits_8 rfl 3 rfl ?_
    refine x_iconst (v := (1 : Int32)) dX5_hits_9 (by decide) ?_
    refine x_iload_n dX5_hits_10 rfl 1 rfl ?_
    refine x_iconst (v := (1 : Int32)) dX5_hits_11 (by decide) ?_
    refine x_isub dX5_hits_12 ?_
    refine x_sI sl_X5_61 dX5_hits_13 (As := [.int i3, .int (1 : Int32), .int (i1 - (1 : Int32))]) rfl rfl (Nat.le_of_ble_eq_true rfl) (CI.mono H (fun x4 h3 H => ?_))
    refine x_if_eq (tgt := 28) dX5_hits_16 (by decide) (fun c => ?_) (fun c => ?_)
    · replace H := H.1 c
      refine x_bipush (v := (-2 : Int32)) dX5_hits_28 (by decide) ?_
      exact x_iret dX5_hits_30 ⟨_, rfl, H⟩
    · replace H := H.2 c
      refine x_iload_n dX5_hits_19 rfl 1 rfl ?_
      refine x_iload_n dX5_hits_20 rfl 2 rfl ?_
      refine x_iload_n dX5_hits_21 rfl 3 rfl ?_
      refine x_sI sl_X5_124 dX5_hits_22 (As := [.int i1, .int i2, .int i3]) rfl rfl (Nat.le_of_ble_eq_true rfl) (CI.mono H (fun x6 h5 H => ?_))
      refine x_goto (tgt := 30) dX5_hits_25 (by decide) ?_
      exact x_iret dX5_hits_30 ⟨_, rfl, H⟩
def L_X5_evenOf_9 (d : Nat) (P : Int32 → Hp → Prop) (h : Hp) (i0 : Int32) (i1 : Int32) (i2 : Int32) (i3 : Int32) : Prop := X (KM (some .int) (fun r h' => ∃ x, r = some (.int x) ∧ P x h')) RX5 cX5_evenOf 4 (d + 1) h 9 [(0, .int i0), (1, .int i1), (2, .int i2), (3, .int i3)] []
set_option maxRecDepth 20000 in
theorem e_X5_evenOf {d : Nat} {P : Int32 → Hp → Prop} {h : Hp} {i0 : Int32} {i1 : Int32} (H : CI M_X5_hitsOf d [.int i0, .int i1, .int (1 : Int32)] h (fun x2 h1 => L_X5_evenOf_9 d P h1 i0 i1 x2 (2 : Int32))) : CI M_X5_evenOf (d + 1) [.int i0, .int i1] h P := by
  refine ⟨trivial, x_enter (by decide) (Nat.le_of_ble_eq_true rfl) ?_⟩
  show X (KM (some .int) (fun r h' => ∃ x, r = some (.int x) ∧ P x h')) RX5 cX5_evenOf 4 (d + 1) h 0 [(0, .int i0), (1, .int i1)] []
  refine x_iload_n dX5_evenOf_0 rfl 0 rfl ?_
  refine x_iload_n dX5_evenOf_1 rfl 1 rfl ?_
  refine x_iconst (v := (1 : Int32)) dX5_evenOf_2 (by decide) ?_
  refine x_sI sl_X5_124 dX5_evenOf_3 (As := [.int i0, .int i1, .int (1 : Int32)]) rfl rfl (Nat.le_of_ble_eq_true rfl) (CI.mono H (fun x2 h1 H => ?_))
  refine x_istore_n dX5_evenOf_6 rfl (by decide) (lv' := [(2, .int x2), (0, .int i0), (1, .int i1)]) rfl ?_
  refine x_iconst (v := (2 : Int32)) dX5_evenOf_7 (by decide) ?_
  refine x_istore_n dX5_evenOf_8 rfl (by decide) (lv' := [(3, .int (2 : Int32)), (2, .int x2), (0, .int i0), (1, .int i1)]) rfl ?_
  refine x_perm [2, 3, 1, 0] rfl ?_
  exact H
set_option maxRecDepth 20000 in
theorem r_X5_evenOf_9 {d : Nat} {P : Int32 → Hp → Prop} {h : Hp} {i0 : Int32} {i1 : Int32} {i2 : Int32} {i3 : Int32} (H : ((i0 ≤ i3 → P i2 h) ∧
  (¬ i0 ≤ i3 → CI M_X5_hitsOf d [.int i0, .int i1, .int i3] h (fun x2 h1 => ((x2 = i2 → L_X5_evenOf_9 d P h1 i0 i1 i2 (i3 + (1 : Int32))) ∧
    (¬ x2 = i2 → P (-1 : Int32) h1)))))) : L_X5_evenOf_9 d P h i0 i1 i2 i3 := by
  show X (KM (some .int) (fun r h' => ∃ x, r = some (.int x) ∧ P x h')) RX5 cX5_evenOf 4 (d + 1) h 9 [(0, .int i0), (1, .int i1), (2, .int i2), (3, .int i3)] []
  refine x_iload_n dX5_evenOf_9 rfl 3 rfl ?_
  refine x_iload_n dX5_evenOf_10 rfl 0 rfl ?_
  refine x_icmp_ge (tgt := 32) dX5_evenOf_11 (by decide) (fun c => ?_) (fun c => ?_)
  · replace H := H.1 c
    refine x_iload_n dX5_evenOf_32 rfl 2 rfl ?_
    exact x_iret dX5_evenOf_33 ⟨_, rfl, H⟩
  · replace H := H.2 c
    refine x_iload_n dX5_evenOf_14 rfl 0 rfl ?_
    refine x_iload_n dX5_evenOf_15 rfl 1 rfl ?_
    refine x_iload_n dX5_evenOf_16 rfl 3 rfl ?_
    refine x_sI sl_X5_124 dX5_evenOf_17 (As := [.int i0, .int i1, .int i3]) rfl rfl (Nat.le_of_ble_eq_true rfl) (CI.mono H (fun x2 h1 H => ?_))
    refine x_iload_n dX5_evenOf_20 rfl 2 rfl ?_
    refine x_icmp_eq (tgt := 26) dX5_evenOf_21 (by decide) (fun c => ?_) (fun c => ?_)
    · replace H := H.1 c
      refine x_iinc (q := 3) (v := (i3 + (1 : Int32))) dX5_evenOf_26 rfl rfl (by decide) (lv' := [(3, .int (i3 + (1 : Int32))), (0, .int i0), (1, .int i1), (2, .int i2)]) rfl ?_
      refine x_goto (tgt := 9) dX5_evenOf_29 (by decide) ?_
      refine x_perm [1, 2, 3, 0] rfl ?_
      exact H
    · replace H := H.2 c
      refine x_iconst (v := (-1 : Int32)) dX5_evenOf_24 (by decide) ?_
      exact x_iret dX5_evenOf_25 ⟨_, rfl, H⟩
set_option maxRecDepth 20000 in
theorem e_X5_even {d : Nat} {P : Int32 → Hp → Prop} {h : Hp} {r0 : Nat} {i1 : Int32} {i2 : Int32} (ho : r0 < 47 ∧ ∃ fs, h r0 = .inr (5, fs)) (H : CI M_X5_isSet d [.int i1, .int i2] h (fun x2 h1 => ((x2 = 0 → P (-2 : Int32) h1) ∧
  (¬ x2 = 0 → CI M_X5_evenOf d [.int i1, .int i2] h1 (fun x4 h3 => P x4 h3))))) : CI M_X5_even (d + 1) [.ref r0, .int i1, .int i2] h P := by
  refine ⟨⟨r0, rfl, ho⟩, x_enter (by decide) (Nat.le_of_ble_eq_true rfl) ?_⟩
  show X (KM (some .int) (fun r h' => ∃ x, r = some (.int x) ∧ P x h')) RX5 cX5_even 3 (d + 1) h 0 [(0, .ref r0), (1, .int i1), (2, .int i2)] []
  refine x_iload_n dX5_even_0 rfl 1 rfl ?_
  refine x_iload_n dX5_even_1 rfl 2 rfl ?_
  refine x_sI sl_X5_121 dX5_even_2 (As := [.int i1, .int i2]) rfl rfl (Nat.le_of_ble_eq_true rfl) (CI.mono H (fun x2 h1 H => ?_))
  refine x_if_eq (tgt := 16) dX5_even_5 (by decide) (fun c => ?_) (fun c => ?_)
  · replace H := H.1 c
    refine x_bipush (v := (-2 : Int32)) dX5_even_16 (by decide) ?_
    exact x_iret dX5_even_18 ⟨_, rfl, H⟩
  · replace H := H.2 c
    refine x_iload_n dX5_even_8 rfl 1 rfl ?_
    refine x_iload_n dX5_even_9 rfl 2 rfl ?_
    refine x_sI sl_X5_128 dX5_even_10 (As := [.int i1, .int i2]) rfl rfl (Nat.le_of_ble_eq_true rfl) (CI.mono H (fun x4 h3 H => ?_))
    refine x_goto (tgt := 18) dX5_even_13 (by decide) ?_
    exact x_iret dX5_even_18 ⟨_, rfl, H⟩
set_option maxRecDepth 20000 in
theorem e_X5_welch {d : Nat} {P : Int32 → Hp → Prop} {h : Hp} {r0 : Nat} {i1 : Int32} {i2 : Int32} (ho : r0 < 47 ∧ ∃ fs, h r0 = .inr (5, fs)) (H : CI M_X5_in d [.int i1, .int (2 : Int32), .int (31 : Int32)] h (fun x2 h1 => ((x2 = 0 → P (-2 : Int32) h1) ∧
  (¬ x2 = 0 → CI M_X5_in d [.int i2, .int (1 : Int32), .int i1] h1 (fun x4 h3 => ((x4 = 0 → P (-2 : Int32) h3) ∧
    (¬ x4 = 0 → ¬ (i2 * (i1 - (1 : Int32))) = 0 ∧ (P (((1000000 : Int32) * (i1 - i2)) / (i2 * (i1 - (1 : Int32)))) h3)))))))) : CI M_X5_welch (d + 1) [.ref r0, .int i1, .int i2] h P := by
  refine ⟨⟨r0, rfl, ho⟩, x_enter (by decide) (Nat.le_of_ble_eq_true rfl) ?_⟩
  show X (KM (some .int) (fun r h' => ∃ x, r = some (.int x) ∧ P x h')) RX5 cX5_welch 3 (d + 1) h 0 [(0, .ref r0), (1, .int i1), (2, .int i2)] []
  refine x_iload_n dX5_welch_0 rfl 1 rfl ?_
  refine x_iconst (v := (2 : Int32)) dX5_welch_1 (by decide) ?_
  refine x_bipush (v := (31 : Int32)) dX5_welch_2 (by decide) ?_
  refine x_sI sl_X5_61 dX5_welch_4 (As := [.int i1, .int (2 : Int32), .int (31 : Int32)]) rfl rfl (Nat.le_of_ble_eq_true rfl) (CI.mono H (fun x2 h1 H => ?_))
  refine x_if_eq (tgt := 34) dX5_welch_7 (by decide) (fun c => ?_) (fun c => ?_)
  · replace H := H.1 c
    refine x_bipush (v := (-2 : Int32)) dX5_welch_34 (by decide) ?_
    exact x_iret dX5_welch_36 ⟨_, rfl, H⟩
  · replace H := H.2 c
    refine x_iload_n dX5_welch_10 rfl 2 rfl ?_
    refine x_iconst (v := (1 : Int32)) dX5_welch_11 (by decide) ?_
    refine x_iload_n dX5_welch_12 rfl 1 rfl ?_
    refine x_sI sl_X5_61 dX5_welch_13 (As := [.int i2, .int (1 : Int32), .int i1]) rfl rfl (Nat.le_of_ble_eq_true rfl) (CI.mono H (fun x4 h3 H => ?_))
    refine x_if_eq (tgt := 34) dX5_welch_16 (by decide) (fun c => ?_) (fun c => ?_)
    · replace H := H.1 c
      refine x_bipush (v := (-2 : Int32)) dX5_welch_34 (by decide) ?_
      exact x_iret dX5_welch_36 ⟨_, rfl, H⟩
    · replace H := H.2 c
      refine x_ldc (v := (1000000 : Int32)) (lw_gm (i := 759) (by decide +kernel) rfl) dX5_welch_19 ?_
      refine x_iload_n dX5_welch_21 rfl 1 rfl ?_
      refine x_iload_n dX5_welch_22 rfl 2 rfl ?_
      refine x_isub dX5_welch_23 ?_
      refine x_imul dX5_welch_24 ?_
      refine x_iload_n dX5_welch_25 rfl 2 rfl ?_
      refine x_iload_n dX5_welch_26 rfl 1 rfl ?_
      refine x_iconst (v := (1 : Int32)) dX5_welch_27 (by decide) ?_
      refine x_isub dX5_welch_28 ?_
      refine x_imul dX5_welch_29 ?_
      obtain ⟨hne, H⟩ := H
      refine x_idiv dX5_welch_30 hne ?_
      refine x_goto (tgt := 36) dX5_welch_31 (by decide) ?_
      exact x_iret dX5_welch_36 ⟨_, rfl, H⟩
def L_X5_divisor_4 (d : Nat) (P : Int32 → Hp → Prop) (h : Hp) (i2 : Int32) (i3 : Int32) : Prop := X (KM (some .int) (fun r h' => ∃ x, r = some (.int x) ∧ P x h')) RX5 cX5_divisor 5 (d + 1) h 4 [(2, .int i2), (3, .int i3)] []
set_option maxRecDepth 20000 in
theorem e_X5_divisor {d : Nat} {P : Int32 → Hp → Prop} {h : Hp} {i0 : Int32} {i1 : Int32} (H : L_X5_divisor_4 d P h i0 i1) : CI M_X5_divisor (d + 1) [.int i0, .int i1] h P := by
  refine ⟨trivial, x_enter (by decide) (Nat.le_of_ble_eq_true rfl) ?_⟩
  show X (KM (some .int) (fun r h' => ∃ x, r = some (.int x) ∧ P x h')) RX5 cX5_divisor 5 (d + 1) h 0 [(0, .int i0), (1, .int i1)] []
  refine x_iload_n dX5_divisor_0 rfl 0 rfl ?_
  refine x_istore_n dX5_divisor_1 rfl (by decide) (lv' := [(2, .int i0), (0, .int i0), (1, .int i1)]) rfl ?_
  refine x_iload_n dX5_divisor_2 rfl 2 rfl ?_
  refine x_istore_n dX5_divisor_3 rfl (by decide) (lv' := [(3, .int i1), (2, .int i0), (0, .int i0), (1, .int i1)]) rfl ?_
  refine x_perm [1, 0] rfl ?_
  exact H
set_option maxRecDepth 20000 in
theorem r_X5_divisor_4 {d : Nat} {P : Int32 → Hp → Prop} {h : Hp} {i2 : Int32} {i3 : Int32} (H : ((i3 ≤ 0 → P i2 h) ∧
  (¬ i3 ≤ 0 → ¬ i3 = 0 ∧ (L_X5_divisor_4 d P h i3 (irem i2 i3))))) : L_X5_divisor_4 d P h i2 i3 := by
  show X (KM (some .int) (fun r h' => ∃ x, r = some (.int x) ∧ P x h')) RX5 cX5_divisor 5 (d + 1) h 4 [(2, .int i2), (3, .int i3)] []
  refine x_iload_n dX5_divisor_4 rfl 1 rfl ?_
  refine x_if_le (tgt := 21) dX5_divisor_5 (by decide) (fun c => ?_) (fun c => ?_)
  · replace H := H.1 c
    refine x_iload_n dX5_divisor_21 rfl 0 rfl ?_
    exact x_iret dX5_divisor_22 ⟨_, rfl, H⟩
  · replace H := H.2 c
    refine x_iload_n dX5_divisor_8 rfl 0 rfl ?_
    refine x_iload_n dX5_divisor_9 rfl 1 rfl ?_
    obtain ⟨hne, H⟩ := H
    refine x_irem dX5_divisor_10 hne ?_
    refine x_istore dX5_divisor_11 (by decide) (lv' := [(4, .int (irem i2 i3)), (2, .int i2), (3, .int i3)]) rfl ?_
    refine x_iload_n dX5_divisor_13 rfl 2 rfl ?_
    refine x_istore_n dX5_divisor_14 rfl (by decide) (lv' := [(2, .int i3), (4, .int (irem i2 i3)), (3, .int i3)]) rfl ?_
    refine x_iload dX5_divisor_15 1 rfl ?_
    refine x_istore_n dX5_divisor_17 rfl (by decide) (lv' := [(3, .int (irem i2 i3)), (2, .int i3), (4, .int (irem i2 i3))]) rfl ?_
    refine x_goto (tgt := 4) dX5_divisor_18 (by decide) ?_
    refine x_perm [1, 0] rfl ?_
    exact H
def L_X5_multipliers_16 (d : Nat) (P : Int32 → Hp → Prop) (h : Hp) (i1 : Int32) (i2 : Int32) (i3 : Int32) (i4 : Int32) : Prop := X (KM (some .int) (fun r h' => ∃ x, r = some (.int x) ∧ P x h')) RX5 cX5_multipliers 8 (d + 1) h 16 [(1, .int i1), (2, .int i2), (3, .int i3), (4, .int i4)] []
def L_X5_multipliers_38 (d : Nat) (P : Int32 → Hp → Prop) (h : Hp) (i1 : Int32) (i2 : Int32) (i3 : Int32) (i4 : Int32) (i5 : Int32) (i6 : Int32) : Prop := X (KM (some .int) (fun r h' => ∃ x, r = some (.int x) ∧ P x h')) RX5 cX5_multipliers 8 (d + 1) h 38 [(1, .int i1), (2, .int i2), (3, .int i3), (4, .int i4), (5, .int i5), (6, .int i6)] []
def L_X5_multipliers_55 (d : Nat) (P : Int32 → Hp → Prop) (h : Hp) (i1 : Int32) (i2 : Int32) (i3 : Int32) (i4 : Int32) (i5 : Int32) (i6 : Int32) (i7 : Int32) : Prop := X (KM (some .int) (fun r h' => ∃ x, r = some (.int x) ∧ P x h')) RX5 cX5_multipliers 8 (d + 1) h 55 [(1, .int i1), (2, .int i2), (3, .int i3), (4, .int i4), (5, .int i5), (6, .int i6), (7, .int i7)] []
set_option maxRecDepth 20000 in
theorem e_X5_multipliers {d : Nat} {P : Int32 → Hp → Prop} {h : Hp} {r0 : Nat} {i1 : Int32} {i2 : Int32} (ho : r0 < 47 ∧ ∃ fs, h r0 = .inr (5, fs)) (H : CI M_X5_isSet d [.int i1, .int i2] h (fun x2 h1 => ((¬ x2 = 0 → L_X5_multipliers_16 d P h1 i1 i2 (0 : Int32) (1 : Int32)) ∧
  (x2 = 0 → P (-2 : Int32) h1)))) : CI M_X5_multipliers (d + 1) [.ref r0, .int i1, .int i2] h P := by
  refine ⟨⟨r0, rfl, ho⟩, x_enter (by decide) (Nat.le_of_ble_eq_true rfl) ?_⟩
  show X (KM (some .int) (fun r h' => ∃ x, r = some (.int x) ∧ P x h')) RX5 cX5_multipliers 8 (d + 1) h 0 [(0, .ref r0), (1, .int i1), (2, .int i2)] []
  refine x_iload_n dX5_multipliers_0 rfl 1 rfl ?_
  refine x_iload_n dX5_multipliers_1 rfl 2 rfl ?_
  refine x_sI sl_X5_121 dX5_multipliers_2 (As := [.int i1, .int i2]) rfl rfl (Nat.le_of_ble_eq_true rfl) (CI.mono H (fun x2 h1 H => ?_))
  refine x_if_ne (tgt := 11) dX5_multipliers_5 (by decide) (fun c => ?_) (fun c => ?_)
  · replace H := H.1 c
    refine x_iconst (v := (0 : Int32)) dX5_multipliers_11 (by decide) ?_
    refine x_istore_n dX5_multipliers_12 rfl (by decide) (lv' := [(3, .int (0 : Int32)), (0, .ref r0), (1, .int i1), (2, .int i2)]) rfl ?_
    refine x_iconst (v := (1 : Int32)) dX5_multipliers_13 (by decide) ?_
    refine x_istore dX5_multipliers_14 (by decide) (lv' := [(4, .int (1 : Int32)), (3, .int (0 : Int32)), (0, .ref r0), (1, .int i1), (2, .int i2)]) rfl ?_
    refine x_perm [3, 4, 1, 0] rfl ?_
    exact H
  · replace H := H.2 c
    refine x_bipush (v := (-2 : Int32)) dX5_multipliers_8 (by decide) ?_
    exact x_iret dX5_multipliers_10 ⟨_, rfl, H⟩
set_option maxRecDepth 20000 in
theorem r_X5_multipliers_16 {d : Nat} {P : Int32 → Hp → Prop} {h : Hp} {i1 : Int32} {i2 : Int32} {i3 : Int32} {i4 : Int32} (H : ((i1 ≤ i4 → P i3 h) ∧
  (¬ i1 ≤ i4 → CI M_X5_divisor d [.int i4, .int i1] h (fun x2 h1 => ((¬ x2 = (1 : Int32) → L_X5_multipliers_16 d P h1 i1 i2 i3 (i4 + (1 : Int32))) ∧
    (x2 = (1 : Int32) → L_X5_multipliers_38 d P h1 i1 i2 i3 i4 (0 : Int32) (0 : Int32))))))) : L_X5_multipliers_16 d P h i1 i2 i3 i4 := by
  show X (KM (some .int) (fun r h' => ∃ x, r = some (.int x) ∧ P x h')) RX5 cX5_multipliers 8 (d + 1) h 16 [(1, .int i1), (2, .int i2), (3, .int i3), (4, .int i4)] []
  refine x_iload dX5_multipliers_16 3 rfl ?_
  refine x_iload_n dX5_multipliers_18 rfl 0 rfl ?_
  refine x_icmp_ge (tgt := 125) dX5_multipliers_19 (by decide) (fun c => ?_) (fun c => ?_)
  · replace H := H.1 c
    refine x_iload_n dX5_multipliers_125 rfl 2 rfl ?_
    exact x_iret dX5_multipliers_126 ⟨_, rfl, H⟩
  · replace H := H.2 c
    refine x_iload dX5_multipliers_22 3 rfl ?_
    refine x_iload_n dX5_multipliers_24 rfl 0 rfl ?_
    refine x_sI sl_X5_132 dX5_multipliers_25 (As := [.int i4, .int i1]) rfl rfl (Nat.le_of_ble_eq_true rfl) (CI.mono H (fun x2 h1 H => ?_))
    refine x_iconst (v := (1 : Int32)) dX5_multipliers_28 (by decide) ?_
    refine x_icmp_ne (tgt := 119) dX5_multipliers_29 (by decide) (fun c => ?_) (fun c => ?_)
    · replace H := H.1 c
      refine x_iinc (q := 3) (v := (i4 + (1 : Int32))) dX5_multipliers_119 rfl rfl (by decide) (lv' := [(4, .int (i4 + (1 : Int32))), (1, .int i1), (2, .int i2), (3, .int i3)]) rfl ?_
      refine x_goto (tgt := 16) dX5_multipliers_122 (by decide) ?_
      refine x_perm [1, 2, 3, 0] rfl ?_
      exact H
    · replace H := H.2 c
      refine x_iconst (v := (0 : Int32)) dX5_multipliers_32 (by decide) ?_
      refine x_istore dX5_multipliers_33 (by decide) (lv' := [(5, .int (0 : Int32)), (1, .int i1), (2, .int i2), (3, .int i3), (4, .int i4)]) rfl ?_
      refine x_iconst (v := (0 : Int32)) dX5_multipliers_35 (by decide) ?_
      refine x_istore dX5_multipliers_36 (by decide) (lv' := [(6, .int (0 : Int32)), (5, .int (0 : Int32)), (1, .int i1), (2, .int i2), (3, .int i3), (4, .int i4)]) rfl ?_
      refine x_perm [2, 3, 4, 5, 1, 0] rfl ?_
      exact H
set_option maxRecDepth 20000 in
theorem r_X5_multipliers_38 {d : Nat} {P : Int32 → Hp → Prop} {h : Hp} {i1 : Int32} {i2 : Int32} {i3 : Int32} {i4 : Int32} {i5 : Int32} {i6 : Int32} (H : ((i1 ≤ i6 → ((i5 = 0 → L_X5_multipliers_16 d P h i1 i2 (i3 + (0 : Int32)) (i4 + (1 : Int32))) ∧
    (¬ i5 = 0 → L_X5_multipliers_16 d P h i1 i2 (i3 + (1 : Int32)) (i4 + (1 : Int32))))) ∧
  (¬ i1 ≤ i6 → ((¬ i5 = 0 → ((i5 = 0 → L_X5_multipliers_16 d P h i1 i2 (i3 + (0 : Int32)) (i4 + (1 : Int32))) ∧
      (¬ i5 = 0 → L_X5_multipliers_16 d P h i1 i2 (i3 + (1 : Int32)) (i4 + (1 : Int32))))) ∧
    (i5 = 0 → L_X5_multipliers_55 d P h i1 i2 i3 i4 (1 : Int32) i6 (0 : Int32)))))) : L_X5_multipliers_38 d P h i1 i2 i3 i4 i5 i6 := by
  show X (KM (some .int) (fun r h' => ∃ x, r = some (.int x) ∧ P x h')) RX5 cX5_multipliers 8 (d + 1) h 38 [(1, .int i1), (2, .int i2), (3, .int i3), (4, .int i4), (5, .int i5), (6, .int i6)] []
  refine x_iload dX5_multipliers_38 5 rfl ?_
  refine x_iload_n dX5_multipliers_40 rfl 0 rfl ?_
  refine x_icmp_ge (tgt := 106) dX5_multipliers_41 (by decide) (fun c => ?_) (fun c => ?_)
  · replace H := H.1 c
    refine x_iload_n dX5_multipliers_106 rfl 2 rfl ?_
    refine x_iload dX5_multipliers_107 4 rfl ?_
    refine x_if_eq (tgt := 116) dX5_multipliers_109 (by decide) (fun c => ?_) (fun c => ?_)
    · replace H := H.1 c
      refine x_iconst (v := (0 : Int32)) dX5_multipliers_116 (by decide) ?_
      refine x_iadd dX5_multipliers_117 ?_
      refine x_istore_n dX5_multipliers_118 rfl (by decide) (lv' := [(3, .int (i3 + (0 : Int32))), (1, .int i1), (2, .int i2), (4, .int i4), (5, .int i5), (6, .int i6)]) rfl ?_
      refine x_iinc (q := 3) (v := (i4 + (1 : Int32))) dX5_multipliers_119 rfl rfl (by decide) (lv' := [(4, .int (i4 + (1 : Int32))), (3, .int (i3 + (0 : Int32))), (1, .int i1), (2, .int i2), (5, .int i5), (6, .int i6)]) rfl ?_
      refine x_goto (tgt := 16) dX5_multipliers_122 (by decide) ?_
      refine x_perm [2, 3, 1, 0] rfl ?_
      exact H
    · replace H := H.2 c
      refine x_iconst (v := (1 : Int32)) dX5_multipliers_112 (by decide) ?_
      refine x_goto (tgt := 117) dX5_multipliers_113 (by decide) ?_
      refine x_iadd dX5_multipliers_117 ?_
      refine x_istore_n dX5_multipliers_118 rfl (by decide) (lv' := [(3, .int (i3 + (1 : Int32))), (1, .int i1), (2, .int i2), (4, .int i4), (5, .int i5), (6, .int i6)]) rfl ?_
      refine x_iinc (q := 3) (v := (i4 + (1 : Int32))) dX5_multipliers_119 rfl rfl (by decide) (lv' := [(4, .int (i4 + (1 : Int32))), (3, .int (i3 + (1 : Int32))), (1, .int i1), (2, .int i2), (5, .int i5), (6, .int i6)]) rfl ?_
      refine x_goto (tgt := 16) dX5_multipliers_122 (by decide) ?_
      refine x_perm [2, 3, 1, 0] rfl ?_
      exact H
  · replace H := H.2 c
    refine x_iload dX5_multipliers_44 4 rfl ?_
    refine x_if_ne (tgt := 106) dX5_multipliers_46 (by decide) (fun c => ?_) (fun c => ?_)
    · replace H := H.1 c
      refine x_iload_n dX5_multipliers_106 rfl 2 rfl ?_
      refine x_iload dX5_multipliers_107 4 rfl ?_
      refine x_if_eq (tgt := 116) dX5_multipliers_109 (by decide) (fun c => ?_) (fun c => ?_)
      · replace H := H.1 c
        refine x_iconst (v := (0 : Int32)) dX5_multipliers_116 (by decide) ?_
        refine x_iadd dX5_multipliers_117 ?_
        refine x_istore_n dX5_multipliers_118 rfl (by decide) (lv' := [(3, .int (i3 + (0 : Int32))), (1, .int i1), (2, .int i2), (4, .int i4), (5, .int i5), (6, .int i6)]) rfl ?_
        refine x_iinc (q := 3) (v := (i4 + (1 : Int32))) dX5_multipliers_119 rfl rfl (by decide) (lv' := [(4, .int (i4 + (1 : Int32))), (3, .int (i3 + (0 : Int32))), (1, .int i1), (2, .int i2), (5, .int i5), (6, .int i6)]) rfl ?_
        refine x_goto (tgt := 16) dX5_multipliers_122 (by decide) ?_
        refine x_perm [2, 3, 1, 0] rfl ?_
        exact H
      · replace H := H.2 c
        refine x_iconst (v := (1 : Int32)) dX5_multipliers_112 (by decide) ?_
        refine x_goto (tgt := 117) dX5_multipliers_113 (by decide) ?_
        refine x_iadd dX5_multipliers_117 ?_
        refine x_istore_n dX5_multipliers_118 rfl (by decide) (lv' := [(3, .int (i3 + (1 : Int32))), (1, .int i1), (2, .int i2), (4, .int i4), (5, .int i5), (6, .int i6)]) rfl ?_
        refine x_iinc (q := 3) (v := (i4 + (1 : Int32))) dX5_multipliers_119 rfl rfl (by decide) (lv' := [(4, .int (i4 + (1 : Int32))), (3, .int (i3 + (1 : Int32))), (1, .int i1), (2, .int i2), (5, .int i5), (6, .int i6)]) rfl ?_
        refine x_goto (tgt := 16) dX5_multipliers_122 (by decide) ?_
        refine x_perm [2, 3, 1, 0] rfl ?_
        exact H
    · replace H := H.2 c
      refine x_iconst (v := (1 : Int32)) dX5_multipliers_49 (by decide) ?_
      refine x_istore dX5_multipliers_50 (by decide) (lv' := [(5, .int (1 : Int32)), (1, .int i1), (2, .int i2), (3, .int i3), (4, .int i4), (6, .int i6)]) rfl ?_
      refine x_iconst (v := (0 : Int32)) dX5_multipliers_52 (by decide) ?_
      refine x_istore dX5_multipliers_53 (by decide) (lv' := [(7, .int (0 : Int32)), (5, .int (1 : Int32)), (1, .int i1), (2, .int i2), (3, .int i3), (4, .int i4), (6, .int i6)]) rfl ?_
      refine x_perm [2, 3, 4, 5, 1, 6, 0] rfl ?_
      exact H
set_option maxRecDepth 20000 in
theorem r_X5_multipliers_55 {d : Nat} {P : Int32 → Hp → Prop} {h : Hp} {i1 : Int32} {i2 : Int32} {i3 : Int32} {i4 : Int32} {i5 : Int32} {i6 : Int32} {i7 : Int32} (H : ((i1 ≤ i7 → L_X5_multipliers_38 d P h i1 i2 i3 i4 i5 (i6 + (1 : Int32))) ∧
  (¬ i1 ≤ i7 → ¬ i1 = 0 ∧ (((¬ ((ishr i2 i7) &&& (1 : Int32)) = ((ishr i2 (irem ((i4 * i7) + i6) i1)) &&& (1 : Int32)) → L_X5_multipliers_55 d P h i1 i2 i3 i4 (i5 &&& (0 : Int32)) i6 (i7 + (1 : Int32))) ∧
    (((ishr i2 i7) &&& (1 : Int32)) = ((ishr i2 (irem ((i4 * i7) + i6) i1)) &&& (1 : Int32)) → L_X5_multipliers_55 d P h i1 i2 i3 i4 (i5 &&& (1 : Int32)) i6 (i7 + (1 : Int32)))))))) : L_X5_multipliers_55 d P h i1 i2 i3 i4 i5 i6 i7 := by
  show X (KM (some .int) (fun r h' => ∃ x, r = some (.int x) ∧ P x h')) RX5 cX5_multipliers 8 (d + 1) h 55 [(1, .int i1), (2, .int i2), (3, .int i3), (4, .int i4), (5, .int i5), (6, .int i6), (7, .int i7)] []
  refine x_iload dX5_multipliers_55 6 rfl ?_
  refine x_iload_n dX5_multipliers_57 rfl 0 rfl ?_
  refine x_icmp_ge (tgt := 100) dX5_multipliers_58 (by decide) (fun c => ?_) (fun c => ?_)
  · replace H := H.1 c
    refine x_iinc (q := 5) (v := (i6 + (1 : Int32))) dX5_multipliers_100 rfl rfl (by decide) (lv' := [(6, .int (i6 + (1 : Int32))), (1, .int i1), (2, .int i2), (3, .int i3), (4, .int i4), (5, .int i5), (7, .int i7)]) rfl ?_
    refine x_goto (tgt := 38) dX5_multipliers_103 (by decide) ?_
    refine x_perm [1, 2, 3, 4, 5, 0] rfl ?_
    exact H
  · replace H := H.2 c
    refine x_iload dX5_multipliers_61 4 rfl ?_
    refine x_iload_n dX5_multipliers_63 rfl 1 rfl ?_
    refine x_iload dX5_multipliers_64 6 rfl ?_
    refine x_ishr dX5_multipliers_66 ?_
    refine x_iconst (v := (1 : Int32)) dX5_multipliers_67 (by decide) ?_
    refine x_iand dX5_multipliers_68 ?_
    refine x_iload_n dX5_multipliers_69 rfl 1 rfl ?_
    refine x_iload dX5_multipliers_70 3 rfl ?_
    refine x_iload dX5_multipliers_72 6 rfl ?_
    refine x_imul dX5_multipliers_74 ?_
    refine x_iload dX5_multipliers_75 5 rfl ?_
    refine x_iadd dX5_multipliers_77 ?_
    refine x_iload_n dX5_multipliers_78 rfl 0 rfl ?_
    obtain ⟨hne, H⟩ := H
    refine x_irem dX5_multipliers_79 hne ?_
    refine x_ishr dX5_multipliers_80 ?_
    refine x_iconst (v := (1 : Int32)) dX5_multipliers_81 (by decide) ?_
    refine x_iand dX5_multipliers_82 ?_
    refine x_icmp_ne (tgt := 90) dX5_multipliers_83 (by decide) (fun c => ?_) (fun c => ?_)
    · replace H := H.1 c
      refine x_iconst (v := (0 : Int32)) dX5_multipliers_90 (by decide) ?_
      refine x_iand dX5_multipliers_91 ?_
      refine x_istore dX5_multipliers_92 (by decide) (lv' := [(5, .int (i5 &&& (0 : Int32))), (1, .int i1), (2, .int i2), (3, .int i3), (4, .int i4), (6, .int i6), (7, .int i7)]) rfl ?_
      refine x_iinc (q := 6) (v := (i7 + (1 : Int32))) dX5_multipliers_94 rfl rfl (by decide) (lv' := [(7, .int (i7 + (1 : Int32))), (5, .int (i5 &&& (0 : Int32))), (1, .int i1), (2, .int i2), (3, .int i3), (4, .int i4), (6, .int i6)]) rfl ?_
      refine x_goto (tgt := 55) dX5_multipliers_97 (by decide) ?_
      refine x_perm [2, 3, 4, 5, 1, 6, 0] rfl ?_
      exact H
    · replace H := H.2 c
      refine x_iconst (v := (1 : Int32)) dX5_multipliers_86 (by decide) ?_
      refine x_goto (tgt := 91) dX5_multipliers_87 (by decide) ?_
      refine x_iand dX5_multipliers_91 ?_
      refine x_istore dX5_multipliers_92 (by decide) (lv' := [(5, .int (i5 &&& (1 : Int32))), (1, .int i1), (2, .int i2), (3, .int i3), (4, .int i4), (6, .int i6), (7, .int i7)]) rfl ?_
      refine x_iinc (q := 6) (v := (i7 + (1 : Int32))) dX5_multipliers_94 rfl rfl (by decide) (lv' := [(7, .int (i7 + (1 : Int32))), (5, .int (i5 &&& (1 : Int32))), (1, .int i1), (2, .int i2), (3, .int i3), (4, .int i4), (6, .int i6)]) rfl ?_
      refine x_goto (tgt := 55) dX5_multipliers_97 (by decide) ?_
      refine x_perm [2, 3, 4, 5, 1, 6, 0] rfl ?_
      exact H
def L_X5_find_24 (d : Nat) (P : Int32 → Hp → Prop) (h : Hp) (i1 : Int32) (i2 : Int32) (i3 : Int32) : Prop := X (KM (some .int) (fun r h' => ∃ x, r = some (.int x) ∧ P x h')) RX5 cX5_find 6 (d + 1) h 24 [(1, .int i1), (2, .int i2), (3, .int i3)] []
def L_X5_find_37 (d : Nat) (P : Int32 → Hp → Prop) (h : Hp) (i1 : Int32) (i2 : Int32) (i3 : Int32) (i4 : Int32) (i5 : Int32) : Prop := X (KM (some .int) (fun r h' => ∃ x, r = some (.int x) ∧ P x h')) RX5 cX5_find 6 (d + 1) h 37 [(1, .int i1), (2, .int i2), (3, .int i3), (4, .int i4), (5, .int i5)] []
set_option maxRecDepth 20000 in
theorem e_X5_find {d : Nat} {P : Int32 → Hp → Prop} {h : Hp} {r0 : Nat} {i1 : Int32} {i2 : Int32} (ho : r0 < 47 ∧ ∃ fs, h r0 = .inr (5, fs)) (H : CI M_X5_in d [.int i1, .int (2 : Int32), .int (15 : Int32)] h (fun x2 h1 => ((x2 = 0 → P (-2 : Int32) h1) ∧
  (¬ x2 = 0 → CI M_X5_in d [.int i2, .int (1 : Int32), .int i1] h1 (fun x4 h3 => ((¬ x4 = 0 → L_X5_find_24 d P h3 i1 i2 (1 : Int32)) ∧
    (x4 = 0 → P (-2 : Int32) h3))))))) : CI M_X5_find (d + 1) [.ref r0, .int i1, .int i2] h P := by
  refine ⟨⟨r0, rfl, ho⟩, x_enter (by decide) (Nat.le_of_ble_eq_true rfl) ?_⟩
  show X (KM (some .int) (fun r h' => ∃ x, r = some (.int x) ∧ P x h')) RX5 cX5_find 6 (d + 1) h 0 [(0, .ref r0), (1, .int i1), (2, .int i2)] []
  refine x_iload_n dX5_find_0 rfl 1 rfl ?_
  refine x_iconst (v := (2 : Int32)) dX5_find_1 (by decide) ?_
  refine x_bipush (v := (15 : Int32)) dX5_find_2 (by decide) ?_
  refine x_sI sl_X5_61 dX5_find_4 (As := [.int i1, .int (2 : Int32), .int (15 : Int32)]) rfl rfl (Nat.le_of_ble_eq_true rfl) (CI.mono H (fun x2 h1 H => ?_))
  refine x_if_eq (tgt := 19) dX5_find_7 (by decide) (fun c => ?_) (fun c => ?_)
  · replace H := H.1 c
    refine x_bipush (v := (-2 : Int32)) dX5_find_19 (by decide) ?_
    exact x_iret dX5_find_21 ⟨_, rfl, H⟩
  · replace H := H.2 c
    refine x_iload_n dX5_find_10 rfl 2 rfl ?_
    refine x_iconst (v := (1 : Int32)) dX5_find_11 (by decide) ?_
    refine x_iload_n dX5_find_12 rfl 1 rfl ?_
    refine x_sI sl_X5_61 dX5_find_13 (As := [.int i2, .int (1 : Int32), .int i1]) rfl rfl (Nat.le_of_ble_eq_true rfl) (CI.mono H (fun x4 h3 H => ?_))
    refine x_if_ne (tgt := 22) dX5_find_16 (by decide) (fun c => ?_) (fun c => ?_)
    · replace H := H.1 c
      refine x_iconst (v := (1 : Int32)) dX5_find_22 (by decide) ?_
      refine x_istore_n dX5_find_23 rfl (by decide) (lv' := [(3, .int (1 : Int32)), (0, .ref r0), (1, .int i1), (2, .int i2)]) rfl ?_
      refine x_perm [2, 3, 0] rfl ?_
      exact H
    · replace H := H.2 c
      refine x_bipush (v := (-2 : Int32)) dX5_find_19 (by decide) ?_
      exact x_iret dX5_find_21 ⟨_, rfl, H⟩
set_option maxRecDepth 20000 in
theorem r_X5_find_24 {d : Nat} {P : Int32 → Hp → Prop} {h : Hp} {i1 : Int32} {i2 : Int32} {i3 : Int32} (H : (((ishl (1 : Int32) i1) ≤ i3 → P (-1 : Int32) h) ∧
  (¬ (ishl (1 : Int32) i1) ≤ i3 → L_X5_find_37 d P h i1 i2 i3 (0 : Int32) (0 : Int32)))) : L_X5_find_24 d P h i1 i2 i3 := by
  show X (KM (some .int) (fun r h' => ∃ x, r = some (.int x) ∧ P x h')) RX5 cX5_find 6 (d + 1) h 24 [(1, .int i1), (2, .int i2), (3, .int i3)] []
  refine x_iload_n dX5_find_24 rfl 2 rfl ?_
  refine x_iconst (v := (1 : Int32)) dX5_find_25 (by decide) ?_
  refine x_iload_n dX5_find_26 rfl 0 rfl ?_
  refine x_ishl dX5_find_27 ?_
  refine x_icmp_ge (tgt := 83) dX5_find_28 (by decide) (fun c => ?_) (fun c => ?_)
  · replace H := H.1 c
    refine x_iconst (v := (-1 : Int32)) dX5_find_83 (by decide) ?_
    exact x_iret dX5_find_84 ⟨_, rfl, H⟩
  · replace H := H.2 c
    refine x_iconst (v := (0 : Int32)) dX5_find_31 (by decide) ?_
    refine x_istore dX5_find_32 (by decide) (lv' := [(4, .int (0 : Int32)), (1, .int i1), (2, .int i2), (3, .int i3)]) rfl ?_
    refine x_iconst (v := (0 : Int32)) dX5_find_34 (by decide) ?_
    refine x_istore dX5_find_35 (by decide) (lv' := [(5, .int (0 : Int32)), (4, .int (0 : Int32)), (1, .int i1), (2, .int i2), (3, .int i3)]) rfl ?_
    refine x_perm [2, 3, 4, 1, 0] rfl ?_
    exact H
set_option maxRecDepth 20000 in
theorem r_X5_find_37 {d : Nat} {P : Int32 → Hp → Prop} {h : Hp} {i1 : Int32} {i2 : Int32} {i3 : Int32} {i4 : Int32} {i5 : Int32} (H : ((i1 ≤ i5 → ((¬ i4 = i2 → L_X5_find_24 d P h i1 i2 (i3 + (2 : Int32))) ∧
    (i4 = i2 → CI M_X5_evenOf d [.int i1, .int i3] h (fun x2 h1 => ((x2 = (-1 : Int32) → L_X5_find_24 d P h1 i1 i2 (i3 + (2 : Int32))) ∧
      (¬ x2 = (-1 : Int32) → P i3 h1)))))) ∧
  (¬ i1 ≤ i5 → L_X5_find_37 d P h i1 i2 i3 (i4 + ((ishr i3 i5) &&& (1 : Int32))) (i5 + (1 : Int32))))) : L_X5_find_37 d P h i1 i2 i3 i4 i5 := by
  show X (KM (some .int) (fun r h' => ∃ x, r = some (.int x) ∧ P x h')) RX5 cX5_find 6 (d + 1) h 37 [(1, .int i1), (2, .int i2), (3, .int i3), (4, .int i4), (5, .int i5)] []
  refine x_iload dX5_find_37 4 rfl ?_
  refine x_iload_n dX5_find_39 rfl 0 rfl ?_
  refine x_icmp_ge (tgt := 60) dX5_find_40 (by decide) (fun c => ?_) (fun c => ?_)
  · replace H := H.1 c
    refine x_iload dX5_find_60 3 rfl ?_
    refine x_iload_n dX5_find_62 rfl 1 rfl ?_
    refine x_icmp_ne (tgt := 77) dX5_find_63 (by decide) (fun c => ?_) (fun c => ?_)
    · replace H := H.1 c
      refine x_iinc (q := 2) (v := (i3 + (2 : Int32))) dX5_find_77 rfl rfl (by decide) (lv' := [(3, .int (i3 + (2 : Int32))), (1, .int i1), (2, .int i2), (4, .int i4), (5, .int i5)]) rfl ?_
      refine x_goto (tgt := 24) dX5_find_80 (by decide) ?_
      refine x_perm [1, 2, 0] rfl ?_
      exact H
    · replace H := H.2 c
      refine x_iload_n dX5_find_66 rfl 0 rfl ?_
      refine x_iload_n dX5_find_67 rfl 2 rfl ?_
      refine x_sI sl_X5_128 dX5_find_68 (As := [.int i1, .int i3]) rfl rfl (Nat.le_of_ble_eq_true rfl) (CI.mono H (fun x2 h1 H => ?_))
      refine x_iconst (v := (-1 : Int32)) dX5_find_71 (by decide) ?_
      refine x_icmp_eq (tgt := 77) dX5_find_72 (by decide) (fun c => ?_) (fun c => ?_)
      · replace H := H.1 c
        refine x_iinc (q := 2) (v := (i3 + (2 : Int32))) dX5_find_77 rfl rfl (by decide) (lv' := [(3, .int (i3 + (2 : Int32))), (1, .int i1), (2, .int i2), (4, .int i4), (5, .int i5)]) rfl ?_
        refine x_goto (tgt := 24) dX5_find_80 (by decide) ?_
        refine x_perm [1, 2, 0] rfl ?_
        exact H
      · replace H := H.2 c
        refine x_iload_n dX5_find_75 rfl 2 rfl ?_
        exact x_iret dX5_find_76 ⟨_, rfl, H⟩
  · replace H := H.2 c
    refine x_iload dX5_find_43 3 rfl ?_
    refine x_iload_n dX5_find_45 rfl 2 rfl ?_
    refine x_iload dX5_find_46 4 rfl ?_
    refine x_ishr dX5_find_48 ?_
    refine x_iconst (v := (1 : Int32)) dX5_find_49 (by decide) ?_
    refine x_iand dX5_find_50 ?_
    refine x_iadd dX5_find_51 ?_
    refine x_istore dX5_find_52 (by decide) (lv' := [(4, .int (i4 + ((ishr i3 i5) &&& (1 : Int32)))), (1, .int i1), (2, .int i2), (3, .int i3), (5, .int i5)]) rfl ?_
    refine x_iinc (q := 4) (v := (i5 + (1 : Int32))) dX5_find_54 rfl rfl (by decide) (lv' := [(5, .int (i5 + (1 : Int32))), (4, .int (i4 + ((ishr i3 i5) &&& (1 : Int32)))), (1, .int i1), (2, .int i2), (3, .int i3)]) rfl ?_
    refine x_goto (tgt := 37) dX5_find_57 (by decide) ?_
    refine x_perm [2, 3, 4, 1, 0] rfl ?_
    exact H
set_option maxRecDepth 20000 in
theorem e_X5_meets {d : Nat} {P : Int32 → Hp → Prop} {h : Hp} {r0 : Nat} {i1 : Int32} (ho : r0 < 47 ∧ ∃ fs, h r0 = .inr (5, fs)) (H : ∃ h1, sF h 5 r0 16 (.int i1) = some h1 ∧ P ((-10 : Int32) - i1) h1) : CI M_X5_meets (d + 1) [.ref r0, .int i1] h P := by
  refine ⟨⟨r0, rfl, ho⟩, x_enter (by decide) (Nat.le_of_ble_eq_true rfl) ?_⟩
  show X (KM (some .int) (fun r h' => ∃ x, r = some (.int x) ∧ P x h')) RX5 cX5_meets 2 (d + 1) h 0 [(0, .ref r0), (1, .int i1)] []
  refine x_aload_n dX5_meets_0 rfl 0 rfl ?_
  refine x_iload_n dX5_meets_1 rfl 1 rfl ?_
  obtain ⟨h1, eh1, H⟩ := H
  refine x_putI fp_X5_135 rfl rfl dX5_meets_2 eh1 ?_
  refine x_bipush (v := (-10 : Int32)) dX5_meets_5 (by decide) ?_
  refine x_iload_n dX5_meets_7 rfl 1 rfl ?_
  refine x_isub dX5_meets_8 ?_
  exact x_iret dX5_meets_9 ⟨_, rfl, H⟩
set_option maxRecDepth 20000 in
theorem e_X5_isSheet {d : Nat} {P : Int32 → Hp → Prop} {h : Hp} {i0 : Int32} (H : CI M_X5_in d [.int i0, .int (0 : Int32), .int (3 : Int32)] h (fun x2 h1 => (x2 = 0 ∨ x2 = 1) ∧ P x2 h1)) : CI M_X5_isSheet (d + 1) [.int i0] h P := by
  refine ⟨trivial, x_enter (by decide) (Nat.le_of_ble_eq_true rfl) ?_⟩
  show X (KM (some .boolean) (fun r h' => ∃ x, r = some (.int x) ∧ P x h')) RX5 cX5_isSheet 1 (d + 1) h 0 [(0, .int i0)] []
  refine x_iload_n dX5_isSheet_0 rfl 0 rfl ?_
  refine x_iconst (v := (0 : Int32)) dX5_isSheet_1 (by decide) ?_
  refine x_iconst (v := (3 : Int32)) dX5_isSheet_2 (by decide) ?_
  refine x_sI sl_X5_61 dX5_isSheet_3 (As := [.int i0, .int (0 : Int32), .int (3 : Int32)]) rfl rfl (Nat.le_of_ble_eq_true rfl) (CI.mono H (fun x2 h1 H => ?_))
  obtain ⟨hz, H⟩ := H
  exact x_zret dX5_isSheet_6 hz ⟨_, rfl, H⟩
def L_X5_sheet_59 (d : Nat) (P : Int32 → Hp → Prop) (h : Hp) (r0 : Nat) (i1 : Int32) (i3 : Int32) (i4 : Int32) : Prop := X (KM (some .int) (fun r h' => ∃ x, r = some (.int x) ∧ P x h')) RX5 cX5_sheet 5 (d + 1) h 59 [(0, .ref r0), (1, .int i1), (3, .int i3), (4, .int i4)] []
set_option maxRecDepth 20000 in
theorem e_X5_sheet {d : Nat} {P : Int32 → Hp → Prop} {h : Hp} {r0 : Nat} {i1 : Int32} {i2 : Int32} {i3 : Int32} (ho : r0 < 47 ∧ ∃ fs, h r0 = .inr (5, fs)) (H : CI M_X5_isSheet d [.int i1] h (fun x2 h1 => ((x2 = 0 → P (-2 : Int32) h1) ∧
  (¬ x2 = 0 → CI M_X5_in d [.int i2, .int (0 : Int32), .int (2 : Int32)] h1 (fun x4 h3 => ((x4 = 0 → P (-2 : Int32) h3) ∧
    (¬ x4 = 0 → ((i3 ≤ (100 : Int32) → ((0 ≤ i3 → ∃ q5, gR h3 5 r0 11 = some q5 ∧ ∃ h6, sZ h3 q5 i1 (1 : Int32) = some h6 ∧ ∃ q7, gR h6 5 r0 12 = some q7 ∧ ∃ h8, sI h6 q7 i1 i2 = some h8 ∧ ∃ q9, gR h8 5 r0 13 = some q9 ∧ ∃ h10, sI h8 q9 i1 i3 = some h10 ∧ L_X5_sheet_59 d P h10 r0 i1 i3 (0 : Int32)) ∧
        (¬ 0 ≤ i3 → CI M_X5_meets d [.ref r0, .int (5 : Int32)] h3 (fun x12 h11 => P x12 h11)))) ∧
      (¬ i3 ≤ (100 : Int32) → P (-2 : Int32) h3))))))))) : CI M_X5_sheet (d + 1) [.ref r0, .int i1, .int i2, .int i3] h P := by
  refine ⟨⟨r0, rfl, ho⟩, x_enter (by decide) (Nat.le_of_ble_eq_true rfl) ?_⟩
  show X (KM (some .int) (fun r h' => ∃ x, r = some (.int x) ∧ P x h')) RX5 cX5_sheet 5 (d + 1) h 0 [(0, .ref r0), (1, .int i1), (2, .int i2), (3, .int i3)] []
  refine x_iload_n dX5_sheet_0 rfl 1 rfl ?_
  refine x_sI sl_X5_138 dX5_sheet_1 (As := [.int i1]) rfl rfl (Nat.le_of_ble_eq_true rfl) (CI.mono H (fun x2 h1 H => ?_))
  refine x_if_eq (tgt := 22) dX5_sheet_4 (by decide) (fun c => ?_) (fun c => ?_)
  · replace H := H.1 c
    refine x_bipush (v := (-2 : Int32)) dX5_sheet_22 (by decide) ?_
    exact x_iret dX5_sheet_24 ⟨_, rfl, H⟩
  · replace H := H.2 c
    refine x_iload_n dX5_sheet_7 rfl 2 rfl ?_
    refine x_iconst (v := (0 : Int32)) dX5_sheet_8 (by decide) ?_
    refine x_iconst (v := (2 : Int32)) dX5_sheet_9 (by decide) ?_
    refine x_sI sl_X5_61 dX5_sheet_10 (As := [.int i2, .int (0 : Int32), .int (2 : Int32)]) rfl rfl (Nat.le_of_ble_eq_true rfl) (CI.mono H (fun x4 h3 H => ?_))
    refine x_if_eq (tgt := 22) dX5_sheet_13 (by decide) (fun c => ?_) (fun c => ?_)
    · replace H := H.1 c
      refine x_bipush (v := (-2 : Int32)) dX5_sheet_22 (by decide) ?_
      exact x_iret dX5_sheet_24 ⟨_, rfl, H⟩
    · replace H := H.2 c
      refine x_iload_n dX5_sheet_16 rfl 3 rfl ?_
      refine x_bipush (v := (100 : Int32)) dX5_sheet_17 (by decide) ?_
      refine x_icmp_le (tgt := 25) dX5_sheet_19 (by decide) (fun c => ?_) (fun c => ?_)
      · replace H := H.1 c
        refine x_iload_n dX5_sheet_25 rfl 3 rfl ?_
        refine x_if_ge (tgt := 35) dX5_sheet_26 (by decide) (fun c => ?_) (fun c => ?_)
        · replace H := H.1 c
          refine x_aload_n dX5_sheet_35 rfl 0 rfl ?_
          obtain ⟨q5, eq5, H⟩ := H
          refine x_getR fl_X5_42 dX5_sheet_36 eq5 ?_
          refine x_iload_n dX5_sheet_39 rfl 1 rfl ?_
          refine x_iconst (v := (1 : Int32)) dX5_sheet_40 (by decide) ?_
          obtain ⟨h6, eh6, H⟩ := H
          refine x_bastore dX5_sheet_41 eh6 ?_
          refine x_aload_n dX5_sheet_42 rfl 0 rfl ?_
          obtain ⟨q7, eq7, H⟩ := H
          refine x_getR fl_X5_46 dX5_sheet_43 eq7 ?_
          refine x_iload_n dX5_sheet_46 rfl 1 rfl ?_
          refine x_iload_n dX5_sheet_47 rfl 2 rfl ?_
          obtain ⟨h8, eh8, H⟩ := H
          refine x_iastore dX5_sheet_48 eh8 ?_
          refine x_aload_n dX5_sheet_49 rfl 0 rfl ?_
          obtain ⟨q9, eq9, H⟩ := H
          refine x_getR fl_X5_49 dX5_sheet_50 eq9 ?_
          refine x_iload_n dX5_sheet_53 rfl 1 rfl ?_
          refine x_iload_n dX5_sheet_54 rfl 3 rfl ?_
          obtain ⟨h10, eh10, H⟩ := H
          refine x_iastore dX5_sheet_55 eh10 ?_
          refine x_iconst (v := (0 : Int32)) dX5_sheet_56 (by decide) ?_
          refine x_istore dX5_sheet_57 (by decide) (lv' := [(4, .int (0 : Int32)), (0, .ref r0), (1, .int i1), (2, .int i2), (3, .int i3)]) rfl ?_
          refine x_perm [1, 2, 4, 0] rfl ?_
          exact H
        · replace H := H.2 c
          refine x_aload_n dX5_sheet_29 rfl 0 rfl ?_
          refine x_iconst (v := (5 : Int32)) dX5_sheet_30 (by decide) ?_
          refine x_vI vl_X5_141 dX5_sheet_31 (As := [.int (5 : Int32)]) rfl rfl (Nat.le_of_ble_eq_true rfl) (CI.mono H (fun x12 h11 H => ?_))
          exact x_iret dX5_sheet_34 ⟨_, rfl, H⟩
      · replace H := H.2 c
        refine x_bipush (v := (-2 : Int32)) dX5_sheet_22 (by decide) ?_
        exact x_iret dX5_sheet_24 ⟨_, rfl, H⟩
set_option maxRecDepth 20000 in
theorem r_X5_sheet_59 {d : Nat} {P : Int32 → Hp → Prop} {h : Hp} {r0 : Nat} {i1 : Int32} {i3 : Int32} {i4 : Int32} (H : (((100 : Int32) ≤ i4 → P i3 h) ∧
  (¬ (100 : Int32) ≤ i4 → ∃ q1, gR h 5 r0 14 = some q1 ∧ ∃ h2, sI h q1 (((100 : Int32) * i1) + i4) (0 : Int32) = some h2 ∧ L_X5_sheet_59 d P h2 r0 i1 i3 (i4 + (1 : Int32))))) : L_X5_sheet_59 d P h r0 i1 i3 i4 := by
  show X (KM (some .int) (fun r h' => ∃ x, r = some (.int x) ∧ P x h')) RX5 cX5_sheet 5 (d + 1) h 59 [(0, .ref r0), (1, .int i1), (3, .int i3), (4, .int i4)] []
  refine x_iload dX5_sheet_59 3 rfl ?_
  refine x_bipush (v := (100 : Int32)) dX5_sheet_61 (by decide) ?_
  refine x_icmp_ge (tgt := 85) dX5_sheet_63 (by decide) (fun c => ?_) (fun c => ?_)
  · replace H := H.1 c
    refine x_iload_n dX5_sheet_85 rfl 2 rfl ?_
    exact x_iret dX5_sheet_86 ⟨_, rfl, H⟩
  · replace H := H.2 c
    refine x_aload_n dX5_sheet_66 rfl 0 rfl ?_
    obtain ⟨q1, eq1, H⟩ := H
    refine x_getR fl_X5_52 dX5_sheet_67 eq1 ?_
    refine x_bipush (v := (100 : Int32)) dX5_sheet_70 (by decide) ?_
    refine x_iload_n dX5_sheet_72 rfl 1 rfl ?_
    refine x_imul dX5_sheet_73 ?_
    refine x_iload dX5_sheet_74 3 rfl ?_
    refine x_iadd dX5_sheet_76 ?_
    refine x_iconst (v := (0 : Int32)) dX5_sheet_77 (by decide) ?_
    obtain ⟨h2, eh2, H⟩ := H
    refine x_iastore dX5_sheet_78 eh2 ?_
    refine x_iinc (q := 3) (v := (i4 + (1 : Int32))) dX5_sheet_79 rfl rfl (by decide) (lv' := [(4, .int (i4 + (1 : Int32))), (0, .ref r0), (1, .int i1), (3, .int i3)]) rfl ?_
    refine x_goto (tgt := 59) dX5_sheet_82 (by decide) ?_
    refine x_perm [1, 2, 3, 0] rfl ?_
    exact H
set_option maxRecDepth 20000 in
theorem e_X5_lose {d : Nat} {P : Int32 → Hp → Prop} {h : Hp} {r0 : Nat} {i1 : Int32} (ho : r0 < 47 ∧ ∃ fs, h r0 = .inr (5, fs)) (H : CI M_X5_isSheet d [.int i1] h (fun x2 h1 => ((¬ x2 = 0 → ∃ q3, gR h1 5 r0 11 = some q3 ∧ ∃ x4, lZ h1 q3 i1 = some x4 ∧ ((¬ x4 = 0 → ∃ q5, gR h1 5 r0 11 = some q5 ∧ ∃ h6, sZ h1 q5 i1 (0 : Int32) = some h6 ∧ ∃ q7, gR h6 5 r0 13 = some q7 ∧ ∃ x8, lI h6 q7 i1 = some x8 ∧ P x8 h6) ∧
    (x4 = 0 → CI M_X5_meets d [.ref r0, .int (1 : Int32)] h1 (fun x10 h9 => P x10 h9)))) ∧
  (x2 = 0 → P (-2 : Int32) h1)))) : CI M_X5_lose (d + 1) [.ref r0, .int i1] h P := by
  refine ⟨⟨r0, rfl, ho⟩, x_enter (by decide) (Nat.le_of_ble_eq_true rfl) ?_⟩
  show X (KM (some .int) (fun r h' => ∃ x, r = some (.int x) ∧ P x h')) RX5 cX5_lose 2 (d + 1) h 0 [(0, .ref r0), (1, .int i1)] []
  refine x_iload_n dX5_lose_0 rfl 1 rfl ?_
  refine x_sI sl_X5_138 dX5_lose_1 (As := [.int i1]) rfl rfl (Nat.le_of_ble_eq_true rfl) (CI.mono H (fun x2 h1 H => ?_))
  refine x_if_ne (tgt := 10) dX5_lose_4 (by decide) (fun c => ?_) (fun c => ?_)
  · replace H := H.1 c
    refine x_aload_n dX5_lose_10 rfl 0 rfl ?_
    obtain ⟨q3, eq3, H⟩ := H
    refine x_getR fl_X5_42 dX5_lose_11 eq3 ?_
    refine x_iload_n dX5_lose_14 rfl 1 rfl ?_
    obtain ⟨x4, ex4, H⟩ := H
    refine x_baload dX5_lose_15 ex4 ?_
    refine x_if_ne (tgt := 25) dX5_lose_16 (by decide) (fun c => ?_) (fun c => ?_)
    · replace H := H.1 c
      refine x_aload_n dX5_lose_25 rfl 0 rfl ?_
      obtain ⟨q5, eq5, H⟩ := H
      refine x_getR fl_X5_42 dX5_lose_26 eq5 ?_
      refine x_iload_n dX5_lose_29 rfl 1 rfl ?_
      refine x_iconst (v := (0 : Int32)) dX5_lose_30 (by decide) ?_
      obtain ⟨h6, eh6, H⟩ := H
      refine x_bastore dX5_lose_31 eh6 ?_
      refine x_aload_n dX5_lose_32 rfl 0 rfl ?_
      obtain ⟨q7, eq7, H⟩ := H
      refine x_getR fl_X5_49 dX5_lose_33 eq7 ?_
      refine x_iload_n dX5_lose_36 rfl 1 rfl ?_
      obtain ⟨x8, ex8, H⟩ := H
      refine x_iaload dX5_lose_37 ex8 ?_
      exact x_iret dX5_lose_38 ⟨_, rfl, H⟩
    · replace H := H.2 c
      refine x_aload_n dX5_lose_19 rfl 0 rfl ?_
      refine x_iconst (v := (1 : Int32)) dX5_lose_20 (by decide) ?_
      refine x_vI vl_X5_141 dX5_lose_21 (As := [.int (1 : Int32)]) rfl rfl (Nat.le_of_ble_eq_true rfl) (CI.mono H (fun x10 h9 H => ?_))
      exact x_iret dX5_lose_24 ⟨_, rfl, H⟩
  · replace H := H.2 c
    refine x_bipush (v := (-2 : Int32)) dX5_lose_7 (by decide) ?_
    exact x_iret dX5_lose_9 ⟨_, rfl, H⟩
set_option maxRecDepth 20000 in
theorem e_X5_lacks {d : Nat} {P : Int32 → Hp → Prop} {h : Hp} {r0 : Nat} {i1 : Int32} {i2 : Int32} {i3 : Int32} (ho : r0 < 47 ∧ ∃ fs, h r0 = .inr (5, fs)) (H : ∃ q1, gR h 5 r0 11 = some q1 ∧ ∃ x2, lZ h q1 i1 = some x2 ∧ ((¬ x2 = 0 → ∃ q3, gR h 5 r0 12 = some q3 ∧ ∃ x4, lI h q3 i1 = some x4 ∧ ((x4 = i2 → ∃ q5, gR h 5 r0 13 = some q5 ∧ ∃ x6, lI h q5 i1 = some x6 ∧ CI M_X5_in d [.int i3, .int (0 : Int32), .int (x6 - (1 : Int32))] h (fun x8 h7 => ((x8 = 0 → P (2 : Int32) h7) ∧
      (¬ x8 = 0 → P (0 : Int32) h7)))) ∧
    (¬ x4 = i2 → P (3 : Int32) h))) ∧
  (x2 = 0 → P (1 : Int32) h))) : CI M_X5_lacks (d + 1) [.ref r0, .int i1, .int i2, .int i3] h P := by
  refine ⟨⟨r0, rfl, ho⟩, x_enter (by decide) (Nat.le_of_ble_eq_true rfl) ?_⟩
  show X (KM (some .int) (fun r h' => ∃ x, r = some (.int x) ∧ P x h')) RX5 cX5_lacks 4 (d + 1) h 0 [(0, .ref r0), (1, .int i1), (2, .int i2), (3, .int i3)] []
  refine x_aload_n dX5_lacks_0 rfl 0 rfl ?_
  obtain ⟨q1, eq1, H⟩ := H
  refine x_getR fl_X5_42 dX5_lacks_1 eq1 ?_
  refine x_iload_n dX5_lacks_4 rfl 1 rfl ?_
  obtain ⟨x2, ex2, H⟩ := H
  refine x_baload dX5_lacks_5 ex2 ?_
  refine x_if_ne (tgt := 13) dX5_lacks_6 (by decide) (fun c => ?_) (fun c => ?_)
  · replace H := H.1 c
    refine x_aload_n dX5_lacks_13 rfl 0 rfl ?_
    obtain ⟨q3, eq3, H⟩ := H
    refine x_getR fl_X5_46 dX5_lacks_14 eq3 ?_
    refine x_iload_n dX5_lacks_17 rfl 1 rfl ?_
    obtain ⟨x4, ex4, H⟩ := H
    refine x_iaload dX5_lacks_18 ex4 ?_
    refine x_iload_n dX5_lacks_19 rfl 2 rfl ?_
    refine x_icmp_eq (tgt := 27) dX5_lacks_20 (by decide) (fun c => ?_) (fun c => ?_)
    · replace H := H.1 c
      refine x_iload_n dX5_lacks_27 rfl 3 rfl ?_
      refine x_iconst (v := (0 : Int32)) dX5_lacks_28 (by decide) ?_
      refine x_aload_n dX5_lacks_29 rfl 0 rfl ?_
      obtain ⟨q5, eq5, H⟩ := H
      refine x_getR fl_X5_49 dX5_lacks_30 eq5 ?_
      refine x_iload_n dX5_lacks_33 rfl 1 rfl ?_
      obtain ⟨x6, ex6, H⟩ := H
      refine x_iaload dX5_lacks_34 ex6 ?_
      refine x_iconst (v := (1 : Int32)) dX5_lacks_35 (by decide) ?_
      refine x_isub dX5_lacks_36 ?_
      refine x_sI sl_X5_61 dX5_lacks_37 (As := [.int i3, .int (0 : Int32), .int (x6 - (1 : Int32))]) rfl rfl (Nat.le_of_ble_eq_true rfl) (CI.mono H (fun x8 h7 H => ?_))
      refine x_if_eq (tgt := 47) dX5_lacks_40 (by decide) (fun c => ?_) (fun c => ?_)
      · replace H := H.1 c
        refine x_iconst (v := (2 : Int32)) dX5_lacks_47 (by decide) ?_
        exact x_iret dX5_lacks_48 ⟨_, rfl, H⟩
      · replace H := H.2 c
        refine x_iconst (v := (0 : Int32)) dX5_lacks_43 (by decide) ?_
        refine x_goto (tgt := 48) dX5_lacks_44 (by decide) ?_
        exact x_iret dX5_lacks_48 ⟨_, rfl, H⟩
    · replace H := H.2 c
      refine x_iconst (v := (3 : Int32)) dX5_lacks_23 (by decide) ?_
      refine x_goto (tgt := 48) dX5_lacks_24 (by decide) ?_
      exact x_iret dX5_lacks_48 ⟨_, rfl, H⟩
  · replace H := H.2 c
    refine x_iconst (v := (1 : Int32)) dX5_lacks_9 (by decide) ?_
    refine x_goto (tgt := 48) dX5_lacks_10 (by decide) ?_
    exact x_iret dX5_lacks_48 ⟨_, rfl, H⟩
set_option maxRecDepth 20000 in
theorem e_X5_lay {d : Nat} {P : Int32 → Hp → Prop} {h : Hp} {r0 : Nat} {i1 : Int32} {i2 : Int32} {i3 : Int32} {i4 : Int32} (ho : r0 < 47 ∧ ∃ fs, h r0 = .inr (5, fs)) (H : CI M_X5_isSheet d [.int i1] h (fun x2 h1 => ((x2 = 0 → P (-2 : Int32) h1) ∧
  (¬ x2 = 0 → CI M_X5_in d [.int i2, .int (0 : Int32), .int (2 : Int32)] h1 (fun x4 h3 => ((¬ x4 = 0 → CI M_X5_lacks d [.ref r0, .int i1, .int i2, .int i3] h3 (fun x6 h5 => ((x6 ≤ 0 → ∃ q7, gR h5 5 r0 14 = some q7 ∧ ((¬ i2 = 0 → ((¬ i2 = (1 : Int32) → ∃ h8, sI h5 q7 (((100 : Int32) * i1) + i3) i4 = some h8 ∧ P (1 : Int32) h8) ∧
          (i2 = (1 : Int32) → ∃ h9, sI h5 q7 (((100 : Int32) * i1) + i3) i4.toInt16.toInt32 = some h9 ∧ P (1 : Int32) h9))) ∧
        (i2 = 0 → ∃ h10, sI h5 q7 (((100 : Int32) * i1) + i3) i4.toInt8.toInt32 = some h10 ∧ P (1 : Int32) h10))) ∧
      (¬ x6 ≤ 0 → CI M_X5_meets d [.ref r0, .int x6] h5 (fun x12 h11 => P x12 h11))))) ∧
    (x4 = 0 → P (-2 : Int32) h3))))))) : CI M_X5_lay (d + 1) [.ref r0, .int i1, .int i2, .int i3, .int i4] h P := by
  refine ⟨⟨r0, rfl, ho⟩, x_enter (by decide) (Nat.le_of_ble_eq_true rfl) ?_⟩
  show X (KM (some .int) (fun r h' => ∃ x, r = some (.int x) ∧ P x h')) RX5 cX5_lay 6 (d + 1) h 0 [(0, .ref r0), (1, .int i1), (2, .int i2), (3, .int i3), (4, .int i4)] []
  refine x_iload_n dX5_lay_0 rfl 1 rfl ?_
  refine x_sI sl_X5_138 dX5_lay_1 (As := [.int i1]) rfl rfl (Nat.le_of_ble_eq_true rfl) (CI.mono H (fun x2 h1 H => ?_))
  refine x_if_eq (tgt := 16) dX5_lay_4 (by decide) (fun c => ?_) (fun c => ?_)
  · replace H := H.1 c
    refine x_bipush (v := (-2 : Int32)) dX5_lay_16 (by decide) ?_
    exact x_iret dX5_lay_18 ⟨_, rfl, H⟩
  · replace H := H.2 c
    refine x_iload_n dX5_lay_7 rfl 2 rfl ?_
    refine x_iconst (v := (0 : Int32)) dX5_lay_8 (by decide) ?_
    refine x_iconst (v := (2 : Int32)) dX5_lay_9 (by decide) ?_
    refine x_sI sl_X5_61 dX5_lay_10 (As := [.int i2, .int (0 : Int32), .int (2 : Int32)]) rfl rfl (Nat.le_of_ble_eq_true rfl) (CI.mono H (fun x4 h3 H => ?_))
    refine x_if_ne (tgt := 19) dX5_lay_13 (by decide) (fun c => ?_) (fun c => ?_)
    · replace H := H.1 c
      refine x_aload_n dX5_lay_19 rfl 0 rfl ?_
      refine x_iload_n dX5_lay_20 rfl 1 rfl ?_
      refine x_iload_n dX5_lay_21 rfl 2 rfl ?_
      refine x_iload_n dX5_lay_22 rfl 3 rfl ?_
      refine x_vI vl_X5_144 dX5_lay_23 (As := [.int i1, .int i2, .int i3]) rfl rfl (Nat.le_of_ble_eq_true rfl) (CI.mono H (fun x6 h5 H => ?_))
      refine x_istore dX5_lay_26 (by decide) (lv' := [(5, .int x6), (0, .ref r0), (1, .int i1), (2, .int i2), (3, .int i3), (4, .int i4)]) rfl ?_
      refine x_iload dX5_lay_28 0 rfl ?_
      refine x_if_le (tgt := 40) dX5_lay_30 (by decide) (fun c => ?_) (fun c => ?_)
      · replace H := H.1 c
        refine x_aload_n dX5_lay_40 rfl 1 rfl ?_
        obtain ⟨q7, eq7, H⟩ := H
        refine x_getR fl_X5_52 dX5_lay_41 eq7 ?_
        refine x_bipush (v := (100 : Int32)) dX5_lay_44 (by decide) ?_
        refine x_iload_n dX5_lay_46 rfl 2 rfl ?_
        refine x_imul dX5_lay_47 ?_
        refine x_iload_n dX5_lay_48 rfl 4 rfl ?_
        refine x_iadd dX5_lay_49 ?_
        refine x_iload_n dX5_lay_50 rfl 3 rfl ?_
        refine x_if_ne (tgt := 60) dX5_lay_51 (by decide) (fun c => ?_) (fun c => ?_)
        · replace H := H.1 c
          refine x_iload_n dX5_lay_60 rfl 3 rfl ?_
          refine x_iconst (v := (1 : Int32)) dX5_lay_61 (by decide) ?_
          refine x_icmp_ne (tgt := 71) dX5_lay_62 (by decide) (fun c => ?_) (fun c => ?_)
          · replace H := H.1 c
            refine x_iload dX5_lay_71 5 rfl ?_
            obtain ⟨h8, eh8, H⟩ := H
            refine x_iastore dX5_lay_73 eh8 ?_
            refine x_iconst (v := (1 : Int32)) dX5_lay_74 (by decide) ?_
            exact x_iret dX5_lay_75 ⟨_, rfl, H⟩
          · replace H := H.2 c
            refine x_iload dX5_lay_65 5 rfl ?_
            refine x_i2s dX5_lay_67 ?_
            refine x_goto (tgt := 73) dX5_lay_68 (by decide) ?_
            obtain ⟨h9, eh9, H⟩ := H
            refine x_iastore dX5_lay_73 eh9 ?_
            refine x_iconst (v := (1 : Int32)) dX5_lay_74 (by decide) ?_
            exact x_iret dX5_lay_75 ⟨_, rfl, H⟩
        · replace H := H.2 c
          refine x_iload dX5_lay_54 5 rfl ?_
          refine x_i2b dX5_lay_56 ?_
          refine x_goto (tgt := 73) dX5_lay_57 (by decide) ?_
          obtain ⟨h10, eh10, H⟩ := H
          refine x_iastore dX5_lay_73 eh10 ?_
          refine x_iconst (v := (1 : Int32)) dX5_lay_74 (by decide) ?_
          exact x_iret dX5_lay_75 ⟨_, rfl, H⟩
      · replace H := H.2 c
        refine x_aload_n dX5_lay_33 rfl 1 rfl ?_
        refine x_iload dX5_lay_34 0 rfl ?_
        refine x_vI vl_X5_141 dX5_lay_36 (As := [.int x6]) rfl rfl (Nat.le_of_ble_eq_true rfl) (CI.mono H (fun x12 h11 H => ?_))
        exact x_iret dX5_lay_39 ⟨_, rfl, H⟩
    · replace H := H.2 c
      refine x_bipush (v := (-2 : Int32)) dX5_lay_16 (by decide) ?_
      exact x_iret dX5_lay_18 ⟨_, rfl, H⟩
set_option maxRecDepth 20000 in
theorem e_X5_get {d : Nat} {P : Int32 → Hp → Prop} {h : Hp} {r0 : Nat} {i1 : Int32} {i2 : Int32} {i3 : Int32} (ho : r0 < 47 ∧ ∃ fs, h r0 = .inr (5, fs)) (H : CI M_X5_isSheet d [.int i1] h (fun x2 h1 => ((x2 = 0 → P (-2147483648 : Int32) h1) ∧
  (¬ x2 = 0 → CI M_X5_in d [.int i2, .int (0 : Int32), .int (2 : Int32)] h1 (fun x4 h3 => ((¬ x4 = 0 → CI M_X5_lacks d [.ref r0, .int i1, .int i2, .int i3] h3 (fun x6 h5 => ((x6 ≤ 0 → ∃ q7, gR h5 5 r0 14 = some q7 ∧ ∃ x8, lI h5 q7 (((100 : Int32) * i1) + i3) = some x8 ∧ P x8 h5) ∧
      (¬ x6 ≤ 0 → ∃ h9, sF h5 5 r0 16 (.int x6) = some h9 ∧ P (-2147483648 : Int32) h9)))) ∧
    (x4 = 0 → P (-2147483648 : Int32) h3))))))) : CI M_X5_get (d + 1) [.ref r0, .int i1, .int i2, .int i3] h P := by
  refine ⟨⟨r0, rfl, ho⟩, x_enter (by decide) (Nat.le_of_ble_eq_true rfl) ?_⟩
  show X (KM (some .int) (fun r h' => ∃ x, r = some (.int x) ∧ P x h')) RX5 cX5_get 5 (d + 1) h 0 [(0, .ref r0), (1, .int i1), (2, .int i2), (3, .int i3)] []
  refine x_iload_n dX5_get_0 rfl 1 rfl ?_
  refine x_sI sl_X5_138 dX5_get_1 (As := [.int i1]) rfl rfl (Nat.le_of_ble_eq_true rfl) (CI.mono H (fun x2 h1 H => ?_))
  refine x_if_eq (tgt := 16) dX5_get_4 (by decide) (fun c => ?_) (fun c => ?_)
  · replace H := H.1 c
    refine x_ldc (v := (-2147483648 : Int32)) (lw_gm (i := 798) (by decide +kernel) rfl) dX5_get_16 ?_
    exact x_iret dX5_get_18 ⟨_, rfl, H⟩
  · replace H := H.2 c
    refine x_iload_n dX5_get_7 rfl 2 rfl ?_
    refine x_iconst (v := (0 : Int32)) dX5_get_8 (by decide) ?_
    refine x_iconst (v := (2 : Int32)) dX5_get_9 (by decide) ?_
    refine x_sI sl_X5_61 dX5_get_10 (As := [.int i2, .int (0 : Int32), .int (2 : Int32)]) rfl rfl (Nat.le_of_ble_eq_true rfl) (CI.mono H (fun x4 h3 H => ?_))
    refine x_if_ne (tgt := 19) dX5_get_13 (by decide) (fun c => ?_) (fun c => ?_)
    · replace H := H.1 c
      refine x_aload_n dX5_get_19 rfl 0 rfl ?_
      refine x_iload_n dX5_get_20 rfl 1 rfl ?_
      refine x_iload_n dX5_get_21 rfl 2 rfl ?_
      refine x_iload_n dX5_get_22 rfl 3 rfl ?_
      refine x_vI vl_X5_144 dX5_get_23 (As := [.int i1, .int i2, .int i3]) rfl rfl (Nat.le_of_ble_eq_true rfl) (CI.mono H (fun x6 h5 H => ?_))
      refine x_istore dX5_get_26 (by decide) (lv' := [(4, .int x6), (0, .ref r0), (1, .int i1), (2, .int i2), (3, .int i3)]) rfl ?_
      refine x_iload dX5_get_28 0 rfl ?_
      refine x_if_le (tgt := 42) dX5_get_30 (by decide) (fun c => ?_) (fun c => ?_)
      · replace H := H.1 c
        refine x_aload_n dX5_get_42 rfl 1 rfl ?_
        obtain ⟨q7, eq7, H⟩ := H
        refine x_getR fl_X5_52 dX5_get_43 eq7 ?_
        refine x_bipush (v := (100 : Int32)) dX5_get_46 (by decide) ?_
        refine x_iload_n dX5_get_48 rfl 2 rfl ?_
        refine x_imul dX5_get_49 ?_
        refine x_iload_n dX5_get_50 rfl 4 rfl ?_
        refine x_iadd dX5_get_51 ?_
        obtain ⟨x8, ex8, H⟩ := H
        refine x_iaload dX5_get_52 ex8 ?_
        exact x_iret dX5_get_53 ⟨_, rfl, H⟩
      · replace H := H.2 c
        refine x_aload_n dX5_get_33 rfl 1 rfl ?_
        refine x_iload dX5_get_34 0 rfl ?_
        obtain ⟨h9, eh9, H⟩ := H
        refine x_putI fp_X5_135 rfl rfl dX5_get_36 eh9 ?_
        refine x_ldc (v := (-2147483648 : Int32)) (lw_gm (i := 798) (by decide +kernel) rfl) dX5_get_39 ?_
        exact x_iret dX5_get_41 ⟨_, rfl, H⟩
    · replace H := H.2 c
      refine x_ldc (v := (-2147483648 : Int32)) (lw_gm (i := 798) (by decide +kernel) rfl) dX5_get_16 ?_
      exact x_iret dX5_get_18 ⟨_, rfl, H⟩
def L_X5_copy_120 (d : Nat) (P : Int32 → Hp → Prop) (h : Hp) (r0 : Nat) (i1 : Int32) (i2 : Int32) (i3 : Int32) (i4 : Int32) (i5 : Int32) (i6 : Int32) : Prop := X (KM (some .int) (fun r h' => ∃ x, r = some (.int x) ∧ P x h')) RX5 cX5_copy 7 (d + 1) h 120 [(0, .ref r0), (1, .int i1), (2, .int i2), (3, .int i3), (4, .int i4), (5, .int i5), (6, .int i6)] []
def L_X5_copy_157 (d : Nat) (P : Int32 → Hp → Prop) (h : Hp) (r0 : Nat) (i3 : Int32) (i4 : Int32) (i5 : Int32) (i6 : Int32) : Prop := X (KM (some .int) (fun r h' => ∃ x, r = some (.int x) ∧ P x h')) RX5 cX5_copy 7 (d + 1) h 157 [(0, .ref r0), (3, .int i3), (4, .int i4), (5, .int i5), (6, .int i6)] []
set_option maxRecDepth 20000 in
theorem e_X5_copy {d : Nat} {P : Int32 → Hp → Prop} {h : Hp} {r0 : Nat} {i1 : Int32} {i2 : Int32} {i3 : Int32} {i4 : Int32} {i5 : Int32} (ho : r0 < 47 ∧ ∃ fs, h r0 = .inr (5, fs)) (H : CI M_X5_isSheet d [.int i1] h (fun x2 h1 => ((x2 = 0 → P (-2 : Int32) h1) ∧
  (¬ x2 = 0 → CI M_X5_isSheet d [.int i3] h1 (fun x4 h3 => ((¬ x4 = 0 → ∃ q5, gR h3 5 r0 11 = some q5 ∧ ∃ x6, lZ h3 q5 i1 = some x6 ∧ ((x6 = 0 → CI M_X5_meets d [.ref r0, .int (1 : Int32)] h3 (fun x8 h7 => P x8 h7)) ∧
      (¬ x6 = 0 → ∃ q9, gR h3 5 r0 11 = some q9 ∧ ∃ x10, lZ h3 q9 i3 = some x10 ∧ ((¬ x10 = 0 → ∃ q11, gR h3 5 r0 12 = some q11 ∧ ∃ x12, lI h3 q11 i1 = some x12 ∧ ∃ q13, gR h3 5 r0 12 = some q13 ∧ ∃ x14, lI h3 q13 i3 = some x14 ∧ ((x12 = x14 → ((i2 < 0 → CI M_X5_meets d [.ref r0, .int (2 : Int32)] h3 (fun x16 h15 => P x16 h15)) ∧
            (¬ i2 < 0 → ((i4 < 0 → CI M_X5_meets d [.ref r0, .int (2 : Int32)] h3 (fun x18 h17 => P x18 h17)) ∧
              (¬ i4 < 0 → ((i5 < 0 → CI M_X5_meets d [.ref r0, .int (2 : Int32)] h3 (fun x20 h19 => P x20 h19)) ∧
                (¬ i5 < 0 → ∃ q21, gR h3 5 r0 13 = some q21 ∧ ∃ x22, lI h3 q21 i1 = some x22 ∧ ((0 < (lcmp (i2.toInt64 + i5.toInt64) x22.toInt64) → CI M_X5_meets d [.ref r0, .int (2 : Int32)] h3 (fun x24 h23 => P x24 h23)) ∧
                  (¬ 0 < (lcmp (i2.toInt64 + i5.toInt64) x22.toInt64) → ∃ q25, gR h3 5 r0 13 = some q25 ∧ ∃ x26, lI h3 q25 i3 = some x26 ∧ (((lcmp (i4.toInt64 + i5.toInt64) x26.toInt64) ≤ 0 → L_X5_copy_120 d P h3 r0 i1 i2 i3 i4 i5 (0 : Int32)) ∧
                    (¬ (lcmp (i4.toInt64 + i5.toInt64) x26.toInt64) ≤ 0 → CI M_X5_meets d [.ref r0, .int (2 : Int32)] h3 (fun x28 h27 => P x28 h27)))))))))))) ∧
          (¬ x12 = x14 → CI M_X5_meets d [.ref r0, .int (4 : Int32)] h3 (fun x30 h29 => P x30 h29)))) ∧
        (x10 = 0 → CI M_X5_meets d [.ref r0, .int (1 : Int32)] h3 (fun x32 h31 => P x32 h31)))))) ∧
    (x4 = 0 → P (-2 : Int32) h3))))))) : CI M_X5_copy (d + 1) [.ref r0, .int i1, .int i2, .int i3, .int i4, .int i5] h P := by
  refine ⟨⟨r0, rfl, ho⟩, x_enter (by decide) (Nat.le_of_ble_eq_true rfl) ?_⟩
  show X (KM (some .int) (fun r h' => ∃ x, r = some (.int x) ∧ P x h')) RX5 cX5_copy 7 (d + 1) h 0 [(0, .ref r0), (1, .int i1), (2, .int i2), (3, .int i3), (4, .int i4), (5, .int i5)] []
  refine x_iload_n dX5_copy_0 rfl 1 rfl ?_
  refine x_sI sl_X5_138 dX5_copy_1 (As := [.int i1]) rfl rfl (Nat.le_of_ble_eq_true rfl) (CI.mono H (fun x2 h1 H => ?_))
  refine x_if_eq (tgt := 14) dX5_copy_4 (by decide) (fun c => ?_) (fun c => ?_)
  · replace H := H.1 c
    refine x_bipush (v := (-2 : Int32)) dX5_copy_14 (by decide) ?_
    exact x_iret dX5_copy_16 ⟨_, rfl, H⟩
  · replace H := H.2 c
    refine x_iload_n dX5_copy_7 rfl 3 rfl ?_
    refine x_sI sl_X5_138 dX5_copy_8 (As := [.int i3]) rfl rfl (Nat.le_of_ble_eq_true rfl) (CI.mono H (fun x4 h3 H => ?_))
    refine x_if_ne (tgt := 17) dX5_copy_11 (by decide) (fun c => ?_) (fun c => ?_)
    · replace H := H.1 c
      refine x_aload_n dX5_copy_17 rfl 0 rfl ?_
      obtain ⟨q5, eq5, H⟩ := H
      refine x_getR fl_X5_42 dX5_copy_18 eq5 ?_
      refine x_iload_n dX5_copy_21 rfl 1 rfl ?_
      obtain ⟨x6, ex6, H⟩ := H
      refine x_baload dX5_copy_22 ex6 ?_
      refine x_if_eq (tgt := 35) dX5_copy_23 (by decide) (fun c => ?_) (fun c => ?_)
      · replace H := H.1 c
        refine x_aload_n dX5_copy_35 rfl 0 rfl ?_
        refine x_iconst (v := (1 : Int32)) dX5_copy_36 (by decide) ?_
        refine x_vI vl_X5_141 dX5_copy_37 (As := [.int (1 : Int32)]) rfl rfl (Nat.le_of_ble_eq_true rfl) (CI.mono H (fun x8 h7 H => ?_))
        exact x_iret dX5_copy_40 ⟨_, rfl, H⟩
      · replace H := H.2 c
        refine x_aload_n dX5_copy_26 rfl 0 rfl ?_
        obtain ⟨q9, eq9, H⟩ := H
        refine x_getR fl_X5_42 dX5_copy_27 eq9 ?_
        refine x_iload_n dX5_copy_30 rfl 3 rfl ?_
        obtain ⟨x10, ex10, H⟩ := H
        refine x_baload dX5_copy_31 ex10 ?_
        refine x_if_ne (tgt := 41) dX5_copy_32 (by decide) (fun c => ?_) (fun c => ?_)
        · replace H := H.1 c
          refine x_aload_n dX5_copy_41 rfl 0 rfl ?_
          obtain ⟨q11, eq11, H⟩ := H
          refine x_getR fl_X5_46 dX5_copy_42 eq11 ?_
          refine x_iload_n dX5_copy_45 rfl 1 rfl ?_
          obtain ⟨x12, ex12, H⟩ := H
          refine x_iaload dX5_copy_46 ex12 ?_
          refine x_aload_n dX5_copy_47 rfl 0 rfl ?_
          obtain ⟨q13, eq13, H⟩ := H
          refine x_getR fl_X5_46 dX5_copy_48 eq13 ?_
          refine x_iload_n dX5_copy_51 rfl 3 rfl ?_
          obtain ⟨x14, ex14, H⟩ := H
          refine x_iaload dX5_copy_52 ex14 ?_
          refine x_icmp_eq (tgt := 62) dX5_copy_53 (by decide) (fun c => ?_) (fun c => ?_)
          · replace H := H.1 c
            refine x_iload_n dX5_copy_62 rfl 2 rfl ?_
            refine x_if_lt (tgt := 111) dX5_copy_63 (by decide) (fun c => ?_) (fun c => ?_)
            · replace H := H.1 c
              refine x_aload_n dX5_copy_111 rfl 0 rfl ?_
              refine x_iconst (v := (2 : Int32)) dX5_copy_112 (by decide) ?_
              refine x_vI vl_X5_141 dX5_copy_113 (As := [.int (2 : Int32)]) rfl rfl (Nat.le_of_ble_eq_true rfl) (CI.mono H (fun x16 h15 H => ?_))
              exact x_iret dX5_copy_116 ⟨_, rfl, H⟩
            · replace H := H.2 c
              refine x_iload dX5_copy_66 4 rfl ?_
              refine x_if_lt (tgt := 111) dX5_copy_68 (by decide) (fun c => ?_) (fun c => ?_)
              · replace H := H.1 c
                refine x_aload_n dX5_copy_111 rfl 0 rfl ?_
                refine x_iconst (v := (2 : Int32)) dX5_copy_112 (by decide) ?_
                refine x_vI vl_X5_141 dX5_copy_113 (As := [.int (2 : Int32)]) rfl rfl (Nat.le_of_ble_eq_true rfl) (CI.mono H (fun x18 h17 H => ?_))
                exact x_iret dX5_copy_116 ⟨_, rfl, H⟩
              · replace H := H.2 c
                refine x_iload dX5_copy_71 5 rfl ?_
                refine x_if_lt (tgt := 111) dX5_copy_73 (by decide) (fun c => ?_) (fun c => ?_)
                · replace H := H.1 c
                  refine x_aload_n dX5_copy_111 rfl 0 rfl ?_
                  refine x_iconst (v := (2 : Int32)) dX5_copy_112 (by decide) ?_
                  refine x_vI vl_X5_141 dX5_copy_113 (As := [.int (2 : Int32)]) rfl rfl (Nat.le_of_ble_eq_true rfl) (CI.mono H (fun x20 h19 H => ?_))
                  exact x_iret dX5_copy_116 ⟨_, rfl, H⟩
                · replace H := H.2 c
                  refine x_iload_n dX5_copy_76 rfl 2 rfl ?_
                  refine x_i2l dX5_copy_77 ?_
                  refine x_iload dX5_copy_78 5 rfl ?_
                  refine x_i2l dX5_copy_80 ?_
                  refine x_ladd dX5_copy_81 ?_
                  refine x_aload_n dX5_copy_82 rfl 0 rfl ?_
                  obtain ⟨q21, eq21, H⟩ := H
                  refine x_getR fl_X5_49 dX5_copy_83 eq21 ?_
                  refine x_iload_n dX5_copy_86 rfl 1 rfl ?_
                  obtain ⟨x22, ex22, H⟩ := H
                  refine x_iaload dX5_copy_87 ex22 ?_
                  refine x_i2l dX5_copy_88 ?_
                  refine x_lcmp dX5_copy_89 ?_
                  refine x_if_gt (tgt := 111) dX5_copy_90 (by decide) (fun c => ?_) (fun c => ?_)
                  · replace H := H.1 c
                    refine x_aload_n dX5_copy_111 rfl 0 rfl ?_
                    refine x_iconst (v := (2 : Int32)) dX5_copy_112 (by decide) ?_
                    refine x_vI vl_X5_141 dX5_copy_113 (As := [.int (2 : Int32)]) rfl rfl (Nat.le_of_ble_eq_true rfl) (CI.mono H (fun x24 h23 H => ?_))
                    exact x_iret dX5_copy_116 ⟨_, rfl, H⟩
                  · replace H := H.2 c
                    refine x_iload dX5_copy_93 4 rfl ?_
                    refine x_i2l dX5_copy_95 ?_
                    refine x_iload dX5_copy_96 5 rfl ?_
                    refine x_i2l dX5_copy_98 ?_
                    refine x_ladd dX5_copy_99 ?_
                    refine x_aload_n dX5_copy_100 rfl 0 rfl ?_
                    obtain ⟨q25, eq25, H⟩ := H
                    refine x_getR fl_X5_49 dX5_copy_101 eq25 ?_
                    refine x_iload_n dX5_copy_104 rfl 3 rfl ?_
                    obtain ⟨x26, ex26, H⟩ := H
                    refine x_iaload dX5_copy_105 ex26 ?_
                    refine x_i2l dX5_copy_106 ?_
                    refine x_lcmp dX5_copy_107 ?_
                    refine x_if_le (tgt := 117) dX5_copy_108 (by decide) (fun c => ?_) (fun c => ?_)
                    · replace H := H.1 c
                      refine x_iconst (v := (0 : Int32)) dX5_copy_117 (by decide) ?_
                      refine x_istore dX5_copy_118 (by decide) (lv' := [(6, .int (0 : Int32)), (0, .ref r0), (1, .int i1), (2, .int i2), (3, .int i3), (4, .int i4), (5, .int i5)]) rfl ?_
                      refine x_perm [1, 2, 3, 4, 5, 6, 0] rfl ?_
                      exact H
                    · replace H := H.2 c
                      refine x_aload_n dX5_copy_111 rfl 0 rfl ?_
                      refine x_iconst (v := (2 : Int32)) dX5_copy_112 (by decide) ?_
                      refine x_vI vl_X5_141 dX5_copy_113 (As := [.int (2 : Int32)]) rfl rfl (Nat.le_of_ble_eq_true rfl) (CI.mono H (fun x28 h27 H => ?_))
                      exact x_iret dX5_copy_116 ⟨_, rfl, H⟩
          · replace H := H.2 c
            refine x_aload_n dX5_copy_56 rfl 0 rfl ?_
            refine x_iconst (v := (4 : Int32)) dX5_copy_57 (by decide) ?_
            refine x_vI vl_X5_141 dX5_copy_58 (As := [.int (4 : Int32)]) rfl rfl (Nat.le_of_ble_eq_true rfl) (CI.mono H (fun x30 h29 H => ?_))
            exact x_iret dX5_copy_61 ⟨_, rfl, H⟩
        · replace H := H.2 c
          refine x_aload_n dX5_copy_35 rfl 0 rfl ?_
          refine x_iconst (v := (1 : Int32)) dX5_copy_36 (by decide) ?_
          refine x_vI vl_X5_141 dX5_copy_37 (As := [.int (1 : Int32)]) rfl rfl (Nat.le_of_ble_eq_true rfl) (CI.mono H (fun x32 h31 H => ?_))
          exact x_iret dX5_copy_40 ⟨_, rfl, H⟩
    · replace H := H.2 c
      refine x_bipush (v := (-2 : Int32)) dX5_copy_14 (by decide) ?_
      exact x_iret dX5_copy_16 ⟨_, rfl, H⟩
set_option maxRecDepth 20000 in
theorem r_X5_copy_120 {d : Nat} {P : Int32 → Hp → Prop} {h : Hp} {r0 : Nat} {i1 : Int32} {i2 : Int32} {i3 : Int32} {i4 : Int32} {i5 : Int32} {i6 : Int32} (H : ((i5 ≤ i6 → L_X5_copy_157 d P h r0 i3 i4 i5 (0 : Int32)) ∧
  (¬ i5 ≤ i6 → ∃ q1, gR h 5 r0 15 = some q1 ∧ ∃ q2, gR h 5 r0 14 = some q2 ∧ ∃ x3, lI h q2 ((((100 : Int32) * i1) + i2) + i6) = some x3 ∧ ∃ h4, sI h q1 i6 x3 = some h4 ∧ L_X5_copy_120 d P h4 r0 i1 i2 i3 i4 i5 (i6 + (1 : Int32))))) : L_X5_copy_120 d P h r0 i1 i2 i3 i4 i5 i6 := by
  show X (KM (some .int) (fun r h' => ∃ x, r = some (.int x) ∧ P x h')) RX5 cX5_copy 7 (d + 1) h 120 [(0, .ref r0), (1, .int i1), (2, .int i2), (3, .int i3), (4, .int i4), (5, .int i5), (6, .int i6)] []
  refine x_iload dX5_copy_120 6 rfl ?_
  refine x_iload dX5_copy_122 5 rfl ?_
  refine x_icmp_ge (tgt := 154) dX5_copy_124 (by decide) (fun c => ?_) (fun c => ?_)
  · replace H := H.1 c
    refine x_iconst (v := (0 : Int32)) dX5_copy_154 (by decide) ?_
    refine x_istore dX5_copy_155 (by decide) (lv' := [(6, .int (0 : Int32)), (0, .ref r0), (1, .int i1), (2, .int i2), (3, .int i3), (4, .int i4), (5, .int i5)]) rfl ?_
    refine x_perm [1, 4, 5, 6, 0] rfl ?_
    exact H
  · replace H := H.2 c
    refine x_aload_n dX5_copy_127 rfl 0 rfl ?_
    obtain ⟨q1, eq1, H⟩ := H
    refine x_getR fl_X5_55 dX5_copy_128 eq1 ?_
    refine x_iload dX5_copy_131 6 rfl ?_
    refine x_aload_n dX5_copy_133 rfl 0 rfl ?_
    obtain ⟨q2, eq2, H⟩ := H
    refine x_getR fl_X5_52 dX5_copy_134 eq2 ?_
    refine x_bipush (v := (100 : Int32)) dX5_copy_137 (by decide) ?_
    refine x_iload_n dX5_copy_139 rfl 1 rfl ?_
    refine x_imul dX5_copy_140 ?_
    refine x_iload_n dX5_copy_141 rfl 2 rfl ?_
    refine x_iadd dX5_copy_142 ?_
    refine x_iload dX5_copy_143 6 rfl ?_
    refine x_iadd dX5_copy_145 ?_
    obtain ⟨x3, ex3, H⟩ := H
    refine x_iaload dX5_copy_146 ex3 ?_
    obtain ⟨h4, eh4, H⟩ := H
    refine x_iastore dX5_copy_147 eh4 ?_
    refine x_iinc (q := 6) (v := (i6 + (1 : Int32))) dX5_copy_148 rfl rfl (by decide) (lv' := [(6, .int (i6 + (1 : Int32))), (0, .ref r0), (1, .int i1), (2, .int i2), (3, .int i3), (4, .int i4), (5, .int i5)]) rfl ?_
    refine x_goto (tgt := 120) dX5_copy_151 (by decide) ?_
    refine x_perm [1, 2, 3, 4, 5, 6, 0] rfl ?_
    exact H
set_option maxRecDepth 20000 in
theorem r_X5_copy_157 {d : Nat} {P : Int32 → Hp → Prop} {h : Hp} {r0 : Nat} {i3 : Int32} {i4 : Int32} {i5 : Int32} {i6 : Int32} (H : ((i5 ≤ i6 → P (1 : Int32) h) ∧
  (¬ i5 ≤ i6 → ∃ q1, gR h 5 r0 14 = some q1 ∧ ∃ q2, gR h 5 r0 15 = some q2 ∧ ∃ x3, lI h q2 i6 = some x3 ∧ ∃ h4, sI h q1 ((((100 : Int32) * i3) + i4) + i6) x3 = some h4 ∧ L_X5_copy_157 d P h4 r0 i3 i4 i5 (i6 + (1 : Int32))))) : L_X5_copy_157 d P h r0 i3 i4 i5 i6 := by
  show X (KM (some .int) (fun r h' => ∃ x, r = some (.int x) ∧ P x h')) RX5 cX5_copy 7 (d + 1) h 157 [(0, .ref r0), (3, .int i3), (4, .int i4), (5, .int i5), (6, .int i6)] []
  refine x_iload dX5_copy_157 4 rfl ?_
  refine x_iload dX5_copy_159 3 rfl ?_
  refine x_icmp_ge (tgt := 192) dX5_copy_161 (by decide) (fun c => ?_) (fun c => ?_)
  · replace H := H.1 c
    refine x_iconst (v := (1 : Int32)) dX5_copy_192 (by decide) ?_
    exact x_iret dX5_copy_193 ⟨_, rfl, H⟩
  · replace H := H.2 c
    refine x_aload_n dX5_copy_164 rfl 0 rfl ?_
    obtain ⟨q1, eq1, H⟩ := H
    refine x_getR fl_X5_52 dX5_copy_165 eq1 ?_
    refine x_bipush (v := (100 : Int32)) dX5_copy_168 (by decide) ?_
    refine x_iload_n dX5_copy_170 rfl 1 rfl ?_
    refine x_imul dX5_copy_171 ?_
    refine x_iload dX5_copy_172 2 rfl ?_
    refine x_iadd dX5_copy_174 ?_
    refine x_iload dX5_copy_175 4 rfl ?_
    refine x_iadd dX5_copy_177 ?_
    refine x_aload_n dX5_copy_178 rfl 0 rfl ?_
    obtain ⟨q2, eq2, H⟩ := H
    refine x_getR fl_X5_55 dX5_copy_179 eq2 ?_
    refine x_iload dX5_copy_182 4 rfl ?_
    obtain ⟨x3, ex3, H⟩ := H
    refine x_iaload dX5_copy_184 ex3 ?_
    obtain ⟨h4, eh4, H⟩ := H
    refine x_iastore dX5_copy_185 eh4 ?_
    refine x_iinc (q := 4) (v := (i6 + (1 : Int32))) dX5_copy_186 rfl rfl (by decide) (lv' := [(6, .int (i6 + (1 : Int32))), (0, .ref r0), (3, .int i3), (4, .int i4), (5, .int i5)]) rfl ?_
    refine x_goto (tgt := 157) dX5_copy_189 (by decide) ?_
    refine x_perm [1, 2, 3, 4, 0] rfl ?_
    exact H
def L_X5_load_69 (d : Nat) (P : Int32 → Hp → Prop) (h : Hp) (r0 : Nat) (i1 : Int32) (i2 : Int32) (i4 : Int32) : Prop := X (KM (some .int) (fun r h' => ∃ x, r = some (.int x) ∧ P x h')) RX5 cX5_load 6 (d + 1) h 69 [(0, .ref r0), (1, .int i1), (2, .int i2), (4, .int i4)] []
def L_X5_load_81 (d : Nat) (P : Int32 → Hp → Prop) (h : Hp) (r0 : Nat) (i1 : Int32) (i2 : Int32) (i4 : Int32) (i5 : Int32) : Prop := X (KM (some .int) (fun r h' => ∃ x, r = some (.int x) ∧ P x h')) RX5 cX5_load 6 (d + 1) h 81 [(0, .ref r0), (1, .int i1), (2, .int i2), (4, .int i4), (5, .int i5)] []
set_option maxRecDepth 20000 in
theorem e_X5_load {d : Nat} {P : Int32 → Hp → Prop} {h : Hp} {r0 : Nat} {i1 : Int32} {i2 : Int32} (ho : r0 < 47 ∧ ∃ fs, h r0 = .inr (5, fs)) (H : CI M_X5_isSheet d [.int i1] h (fun x2 h1 => ((x2 = 0 → P (-2 : Int32) h1) ∧
  (¬ x2 = 0 → CI M_X5_in d [.int i2, .int (0 : Int32), .int (10 : Int32)] h1 (fun x4 h3 => ((¬ x4 = 0 → ∃ q5, gR h3 5 r0 11 = some q5 ∧ ∃ x6, lZ h3 q5 i1 = some x6 ∧ ((¬ x6 = 0 → ((i2 ≤ (1 : Int32) → CI M_X5_lines d [.ref r0, .int i2] h3 (fun x8 h7 => L_X5_load_69 d P h7 r0 i1 i2 (0 : Int32))) ∧
        (¬ i2 ≤ (1 : Int32) → ∃ q9, gR h3 5 r0 13 = some q9 ∧ ∃ x10, lI h3 q9 i1 = some x10 ∧ (((i2 * (i2 - (1 : Int32))) ≤ x10 → CI M_X5_lines d [.ref r0, .int i2] h3 (fun x12 h11 => L_X5_load_69 d P h11 r0 i1 i2 (0 : Int32))) ∧
          (¬ (i2 * (i2 - (1 : Int32))) ≤ x10 → CI M_X5_meets d [.ref r0, .int (2 : Int32)] h3 (fun x14 h13 => P x14 h13)))))) ∧
      (x6 = 0 → CI M_X5_meets d [.ref r0, .int (1 : Int32)] h3 (fun x16 h15 => P x16 h15)))) ∧
    (x4 = 0 → P (-2 : Int32) h3))))))) : CI M_X5_load (d + 1) [.ref r0, .int i1, .int i2] h P := by
  refine ⟨⟨r0, rfl, ho⟩, x_enter (by decide) (Nat.le_of_ble_eq_true rfl) ?_⟩
  show X (KM (some .int) (fun r h' => ∃ x, r = some (.int x) ∧ P x h')) RX5 cX5_load 6 (d + 1) h 0 [(0, .ref r0), (1, .int i1), (2, .int i2)] []
  refine x_iload_n dX5_load_0 rfl 1 rfl ?_
  refine x_sI sl_X5_138 dX5_load_1 (As := [.int i1]) rfl rfl (Nat.le_of_ble_eq_true rfl) (CI.mono H (fun x2 h1 H => ?_))
  refine x_if_eq (tgt := 17) dX5_load_4 (by decide) (fun c => ?_) (fun c => ?_)
  · replace H := H.1 c
    refine x_bipush (v := (-2 : Int32)) dX5_load_17 (by decide) ?_
    exact x_iret dX5_load_19 ⟨_, rfl, H⟩
  · replace H := H.2 c
    refine x_iload_n dX5_load_7 rfl 2 rfl ?_
    refine x_iconst (v := (0 : Int32)) dX5_load_8 (by decide) ?_
    refine x_bipush (v := (10 : Int32)) dX5_load_9 (by decide) ?_
    refine x_sI sl_X5_61 dX5_load_11 (As := [.int i2, .int (0 : Int32), .int (10 : Int32)]) rfl rfl (Nat.le_of_ble_eq_true rfl) (CI.mono H (fun x4 h3 H => ?_))
    refine x_if_ne (tgt := 20) dX5_load_14 (by decide) (fun c => ?_) (fun c => ?_)
    · replace H := H.1 c
      refine x_aload_n dX5_load_20 rfl 0 rfl ?_
      obtain ⟨q5, eq5, H⟩ := H
      refine x_getR fl_X5_42 dX5_load_21 eq5 ?_
      refine x_iload_n dX5_load_24 rfl 1 rfl ?_
      obtain ⟨x6, ex6, H⟩ := H
      refine x_baload dX5_load_25 ex6 ?_
      refine x_if_ne (tgt := 35) dX5_load_26 (by decide) (fun c => ?_) (fun c => ?_)
      · replace H := H.1 c
        refine x_iload_n dX5_load_35 rfl 2 rfl ?_
        refine x_iconst (v := (1 : Int32)) dX5_load_36 (by decide) ?_
        refine x_icmp_le (tgt := 60) dX5_load_37 (by decide) (fun c => ?_) (fun c => ?_)
        · replace H := H.1 c
          refine x_aload_n dX5_load_60 rfl 0 rfl ?_
          refine x_iload_n dX5_load_61 rfl 2 rfl ?_
          refine x_vI vl_X5_148 dX5_load_62 (As := [.int i2]) rfl rfl (Nat.le_of_ble_eq_true rfl) (CI.mono H (fun x8 h7 H => ?_))
          refine x_istore_n dX5_load_65 rfl (by decide) (lv' := [(3, .int x8), (0, .ref r0), (1, .int i1), (2, .int i2)]) rfl ?_
          refine x_iconst (v := (0 : Int32)) dX5_load_66 (by decide) ?_
          refine x_istore dX5_load_67 (by decide) (lv' := [(4, .int (0 : Int32)), (3, .int x8), (0, .ref r0), (1, .int i1), (2, .int i2)]) rfl ?_
          refine x_perm [2, 3, 4, 0] rfl ?_
          exact H
        · replace H := H.2 c
          refine x_aload_n dX5_load_40 rfl 0 rfl ?_
          obtain ⟨q9, eq9, H⟩ := H
          refine x_getR fl_X5_49 dX5_load_41 eq9 ?_
          refine x_iload_n dX5_load_44 rfl 1 rfl ?_
          obtain ⟨x10, ex10, H⟩ := H
          refine x_iaload dX5_load_45 ex10 ?_
          refine x_iload_n dX5_load_46 rfl 2 rfl ?_
          refine x_iload_n dX5_load_47 rfl 2 rfl ?_
          refine x_iconst (v := (1 : Int32)) dX5_load_48 (by decide) ?_
          refine x_isub dX5_load_49 ?_
          refine x_imul dX5_load_50 ?_
          refine x_icmp_ge (tgt := 60) dX5_load_51 (by decide) (fun c => ?_) (fun c => ?_)
          · replace H := H.1 c
            refine x_aload_n dX5_load_60 rfl 0 rfl ?_
            refine x_iload_n dX5_load_61 rfl 2 rfl ?_
            refine x_vI vl_X5_148 dX5_load_62 (As := [.int i2]) rfl rfl (Nat.le_of_ble_eq_true rfl) (CI.mono H (fun x12 h11 H => ?_))
            refine x_istore_n dX5_load_65 rfl (by decide) (lv' := [(3, .int x12), (0, .ref r0), (1, .int i1), (2, .int i2)]) rfl ?_
            refine x_iconst (v := (0 : Int32)) dX5_load_66 (by decide) ?_
            refine x_istore dX5_load_67 (by decide) (lv' := [(4, .int (0 : Int32)), (3, .int x12), (0, .ref r0), (1, .int i1), (2, .int i2)]) rfl ?_
            refine x_perm [2, 3, 4, 0] rfl ?_
            exact H
          · replace H := H.2 c
            refine x_aload_n dX5_load_54 rfl 0 rfl ?_
            refine x_iconst (v := (2 : Int32)) dX5_load_55 (by decide) ?_
            refine x_vI vl_X5_141 dX5_load_56 (As := [.int (2 : Int32)]) rfl rfl (Nat.le_of_ble_eq_true rfl) (CI.mono H (fun x14 h13 H => ?_))
            exact x_iret dX5_load_59 ⟨_, rfl, H⟩
      · replace H := H.2 c
        refine x_aload_n dX5_load_29 rfl 0 rfl ?_
        refine x_iconst (v := (1 : Int32)) dX5_load_30 (by decide) ?_
        refine x_vI vl_X5_141 dX5_load_31 (As := [.int (1 : Int32)]) rfl rfl (Nat.le_of_ble_eq_true rfl) (CI.mono H (fun x16 h15 H => ?_))
        exact x_iret dX5_load_34 ⟨_, rfl, H⟩
    · replace H := H.2 c
      refine x_bipush (v := (-2 : Int32)) dX5_load_17 (by decide) ?_
      exact x_iret dX5_load_19 ⟨_, rfl, H⟩
set_option maxRecDepth 20000 in
theorem r_X5_load_69 {d : Nat} {P : Int32 → Hp → Prop} {h : Hp} {r0 : Nat} {i1 : Int32} {i2 : Int32} {i4 : Int32} (H : ((i2 ≤ i4 → P i2 h) ∧
  (¬ i2 ≤ i4 → L_X5_load_81 d P h r0 i1 i2 i4 (i4 + (1 : Int32))))) : L_X5_load_69 d P h r0 i1 i2 i4 := by
  show X (KM (some .int) (fun r h' => ∃ x, r = some (.int x) ∧ P x h')) RX5 cX5_load 6 (d + 1) h 69 [(0, .ref r0), (1, .int i1), (2, .int i2), (4, .int i4)] []
  refine x_iload dX5_load_69 3 rfl ?_
  refine x_iload_n dX5_load_71 rfl 2 rfl ?_
  refine x_icmp_ge (tgt := 132) dX5_load_72 (by decide) (fun c => ?_) (fun c => ?_)
  · replace H := H.1 c
    refine x_iload_n dX5_load_132 rfl 2 rfl ?_
    exact x_iret dX5_load_133 ⟨_, rfl, H⟩
  · replace H := H.2 c
    refine x_iload dX5_load_75 3 rfl ?_
    refine x_iconst (v := (1 : Int32)) dX5_load_77 (by decide) ?_
    refine x_iadd dX5_load_78 ?_
    refine x_istore dX5_load_79 (by decide) (lv' := [(5, .int (i4 + (1 : Int32))), (0, .ref r0), (1, .int i1), (2, .int i2), (4, .int i4)]) rfl ?_
    refine x_perm [1, 2, 3, 4, 0] rfl ?_
    exact H
set_option maxRecDepth 20000 in
theorem r_X5_load_81 {d : Nat} {P : Int32 → Hp → Prop} {h : Hp} {r0 : Nat} {i1 : Int32} {i2 : Int32} {i4 : Int32} {i5 : Int32} (H : ((i2 ≤ i5 → L_X5_load_69 d P h r0 i1 i2 (i4 + (1 : Int32))) ∧
  (¬ i2 ≤ i5 → ∃ q1, gR h 5 r0 14 = some q1 ∧ ∃ x2, lI h q1 ((((100 : Int32) * i1) + (i2 * i4)) + i5) = some x2 ∧ ((0 ≤ x2 → CV M_X5_set d [.ref r0, .int i4, .int i5, .int (1 : Int32)] h (fun h3 => L_X5_load_81 d P h3 r0 i1 i2 i4 (i5 + (1 : Int32)))) ∧
    (¬ 0 ≤ x2 → CV M_X5_set d [.ref r0, .int i4, .int i5, .int (-1 : Int32)] h (fun h4 => L_X5_load_81 d P h4 r0 i1 i2 i4 (i5 + (1 : Int32)))))))) : L_X5_load_81 d P h r0 i1 i2 i4 i5 := by
  show X (KM (some .int) (fun r h' => ∃ x, r = some (.int x) ∧ P x h')) RX5 cX5_load 6 (d + 1) h 81 [(0, .ref r0), (1, .int i1), (2, .int i2), (4, .int i4), (5, .int i5)] []
  refine x_iload dX5_load_81 4 rfl ?_
  refine x_iload_n dX5_load_83 rfl 2 rfl ?_
  refine x_icmp_ge (tgt := 126) dX5_load_84 (by decide) (fun c => ?_) (fun c => ?_)
  · replace H := H.1 c
    refine x_iinc (q := 3) (v := (i4 + (1 : Int32))) dX5_load_126 rfl rfl (by decide) (lv' := [(4, .int (i4 + (1 : Int32))), (0, .ref r0), (1, .int i1), (2, .int i2), (5, .int i5)]) rfl ?_
    refine x_goto (tgt := 69) dX5_load_129 (by decide) ?_
    refine x_perm [1, 2, 3, 0] rfl ?_
    exact H
  · replace H := H.2 c
    refine x_aload_n dX5_load_87 rfl 0 rfl ?_
    refine x_iload dX5_load_88 3 rfl ?_
    refine x_iload dX5_load_90 4 rfl ?_
    refine x_aload_n dX5_load_92 rfl 0 rfl ?_
    obtain ⟨q1, eq1, H⟩ := H
    refine x_getR fl_X5_52 dX5_load_93 eq1 ?_
    refine x_bipush (v := (100 : Int32)) dX5_load_96 (by decide) ?_
    refine x_iload_n dX5_load_98 rfl 1 rfl ?_
    refine x_imul dX5_load_99 ?_
    refine x_iload_n dX5_load_100 rfl 2 rfl ?_
    refine x_iload dX5_load_101 3 rfl ?_
    refine x_imul dX5_load_103 ?_
    refine x_iadd dX5_load_104 ?_
    refine x_iload dX5_load_105 4 rfl ?_
    refine x_iadd dX5_load_107 ?_
    obtain ⟨x2, ex2, H⟩ := H
    refine x_iaload dX5_load_108 ex2 ?_
    refine x_if_ge (tgt := 116) dX5_load_109 (by decide) (fun c => ?_) (fun c => ?_)
    · replace H := H.1 c
      refine x_iconst (v := (1 : Int32)) dX5_load_116 (by decide) ?_
      refine x_vV vl_X5_65 dX5_load_117 (As := [.int i4, .int i5, .int (1 : Int32)]) rfl rfl (Nat.le_of_ble_eq_true rfl) (CV.mono H (fun h3 H => ?_))
      refine x_iinc (q := 4) (v := (i5 + (1 : Int32))) dX5_load_120 rfl rfl (by decide) (lv' := [(5, .int (i5 + (1 : Int32))), (0, .ref r0), (1, .int i1), (2, .int i2), (4, .int i4)]) rfl ?_
      refine x_goto (tgt := 81) dX5_load_123 (by decide) ?_
      refine x_perm [1, 2, 3, 4, 0] rfl ?_
      exact H
    · replace H := H.2 c
      refine x_iconst (v := (-1 : Int32)) dX5_load_112 (by decide) ?_
      refine x_goto (tgt := 117) dX5_load_113 (by decide) ?_
      refine x_vV vl_X5_65 dX5_load_117 (As := [.int i4, .int i5, .int (-1 : Int32)]) rfl rfl (Nat.le_of_ble_eq_true rfl) (CV.mono H (fun h4 H => ?_))
      refine x_iinc (q := 4) (v := (i5 + (1 : Int32))) dX5_load_120 rfl rfl (by decide) (lv' := [(5, .int (i5 + (1 : Int32))), (0, .ref r0), (1, .int i1), (2, .int i2), (4, .int i4)]) rfl ?_
      refine x_goto (tgt := 81) dX5_load_123 (by decide) ?_
      refine x_perm [1, 2, 3, 4, 0] rfl ?_
      exact H
def L_X5_write_51 (d : Nat) (P : Int32 → Hp → Prop) (h : Hp) (r0 : Nat) (i1 : Int32) (i2 : Int32) : Prop := X (KM (some .int) (fun r h' => ∃ x, r = some (.int x) ∧ P x h')) RX5 cX5_write 4 (d + 1) h 51 [(0, .ref r0), (1, .int i1), (2, .int i2)] []
def L_X5_write_61 (d : Nat) (P : Int32 → Hp → Prop) (h : Hp) (r0 : Nat) (i1 : Int32) (i2 : Int32) (i3 : Int32) : Prop := X (KM (some .int) (fun r h' => ∃ x, r = some (.int x) ∧ P x h')) RX5 cX5_write 4 (d + 1) h 61 [(0, .ref r0), (1, .int i1), (2, .int i2), (3, .int i3)] []
set_option maxRecDepth 20000 in
theorem e_X5_write {d : Nat} {P : Int32 → Hp → Prop} {h : Hp} {r0 : Nat} {i1 : Int32} (ho : r0 < 47 ∧ ∃ fs, h r0 = .inr (5, fs)) (H : CI M_X5_isSheet d [.int i1] h (fun x2 h1 => ((¬ x2 = 0 → ∃ q3, gR h1 5 r0 11 = some q3 ∧ ∃ x4, lZ h1 q3 i1 = some x4 ∧ ((¬ x4 = 0 → ∃ q5, gR h1 5 r0 13 = some q5 ∧ ∃ x6, lI h1 q5 i1 = some x6 ∧ ∃ x7, gI h1 5 r0 0 = some x7 ∧ ∃ x8, gI h1 5 r0 0 = some x8 ∧ (((x7 * x8) ≤ x6 → L_X5_write_51 d P h1 r0 i1 (0 : Int32)) ∧
      (¬ (x7 * x8) ≤ x6 → CI M_X5_meets d [.ref r0, .int (2 : Int32)] h1 (fun x10 h9 => P x10 h9)))) ∧
    (x4 = 0 → CI M_X5_meets d [.ref r0, .int (1 : Int32)] h1 (fun x12 h11 => P x12 h11)))) ∧
  (x2 = 0 → P (-2 : Int32) h1)))) : CI M_X5_write (d + 1) [.ref r0, .int i1] h P := by
  refine ⟨⟨r0, rfl, ho⟩, x_enter (by decide) (Nat.le_of_ble_eq_true rfl) ?_⟩
  show X (KM (some .int) (fun r h' => ∃ x, r = some (.int x) ∧ P x h')) RX5 cX5_write 4 (d + 1) h 0 [(0, .ref r0), (1, .int i1)] []
  refine x_iload_n dX5_write_0 rfl 1 rfl ?_
  refine x_sI sl_X5_138 dX5_write_1 (As := [.int i1]) rfl rfl (Nat.le_of_ble_eq_true rfl) (CI.mono H (fun x2 h1 H => ?_))
  refine x_if_ne (tgt := 10) dX5_write_4 (by decide) (fun c => ?_) (fun c => ?_)
  · replace H := H.1 c
    refine x_aload_n dX5_write_10 rfl 0 rfl ?_
    obtain ⟨q3, eq3, H⟩ := H
    refine x_getR fl_X5_42 dX5_write_11 eq3 ?_
    refine x_iload_n dX5_write_14 rfl 1 rfl ?_
    obtain ⟨x4, ex4, H⟩ := H
    refine x_baload dX5_write_15 ex4 ?_
    refine x_if_ne (tgt := 25) dX5_write_16 (by decide) (fun c => ?_) (fun c => ?_)
    · replace H := H.1 c
      refine x_aload_n dX5_write_25 rfl 0 rfl ?_
      obtain ⟨q5, eq5, H⟩ := H
      refine x_getR fl_X5_49 dX5_write_26 eq5 ?_
      refine x_iload_n dX5_write_29 rfl 1 rfl ?_
      obtain ⟨x6, ex6, H⟩ := H
      refine x_iaload dX5_write_30 ex6 ?_
      refine x_aload_n dX5_write_31 rfl 0 rfl ?_
      obtain ⟨x7, ex7, H⟩ := H
      refine x_getI fl_X5_58 dX5_write_32 ex7 ?_
      refine x_aload_n dX5_write_35 rfl 0 rfl ?_
      obtain ⟨x8, ex8, H⟩ := H
      refine x_getI fl_X5_58 dX5_write_36 ex8 ?_
      refine x_imul dX5_write_39 ?_
      refine x_icmp_ge (tgt := 49) dX5_write_40 (by decide) (fun c => ?_) (fun c => ?_)
      · replace H := H.1 c
        refine x_iconst (v := (0 : Int32)) dX5_write_49 (by decide) ?_
        refine x_istore_n dX5_write_50 rfl (by decide) (lv' := [(2, .int (0 : Int32)), (0, .ref r0), (1, .int i1)]) rfl ?_
        refine x_perm [1, 2, 0] rfl ?_
        exact H
      · replace H := H.2 c
        refine x_aload_n dX5_write_43 rfl 0 rfl ?_
        refine x_iconst (v := (2 : Int32)) dX5_write_44 (by decide) ?_
        refine x_vI vl_X5_141 dX5_write_45 (As := [.int (2 : Int32)]) rfl rfl (Nat.le_of_ble_eq_true rfl) (CI.mono H (fun x10 h9 H => ?_))
        exact x_iret dX5_write_48 ⟨_, rfl, H⟩
    · replace H := H.2 c
      refine x_aload_n dX5_write_19 rfl 0 rfl ?_
      refine x_iconst (v := (1 : Int32)) dX5_write_20 (by decide) ?_
      refine x_vI vl_X5_141 dX5_write_21 (As := [.int (1 : Int32)]) rfl rfl (Nat.le_of_ble_eq_true rfl) (CI.mono H (fun x12 h11 H => ?_))
      exact x_iret dX5_write_24 ⟨_, rfl, H⟩
  · replace H := H.2 c
    refine x_bipush (v := (-2 : Int32)) dX5_write_7 (by decide) ?_
    exact x_iret dX5_write_9 ⟨_, rfl, H⟩
set_option maxRecDepth 20000 in
theorem r_X5_write_51 {d : Nat} {P : Int32 → Hp → Prop} {h : Hp} {r0 : Nat} {i1 : Int32} {i2 : Int32} (H : ∃ x1, gI h 5 r0 0 = some x1 ∧ ((x1 ≤ i2 → ∃ x2, gI h 5 r0 0 = some x2 ∧ ∃ x3, gI h 5 r0 0 = some x3 ∧ P (x2 * x3) h) ∧
  (¬ x1 ≤ i2 → L_X5_write_61 d P h r0 i1 i2 (0 : Int32)))) : L_X5_write_51 d P h r0 i1 i2 := by
  show X (KM (some .int) (fun r h' => ∃ x, r = some (.int x) ∧ P x h')) RX5 cX5_write 4 (d + 1) h 51 [(0, .ref r0), (1, .int i1), (2, .int i2)] []
  refine x_iload_n dX5_write_51 rfl 2 rfl ?_
  refine x_aload_n dX5_write_52 rfl 0 rfl ?_
  obtain ⟨x1, ex1, H⟩ := H
  refine x_getI fl_X5_58 dX5_write_53 ex1 ?_
  refine x_icmp_ge (tgt := 110) dX5_write_56 (by decide) (fun c => ?_) (fun c => ?_)
  · replace H := H.1 c
    refine x_aload_n dX5_write_110 rfl 0 rfl ?_
    obtain ⟨x2, ex2, H⟩ := H
    refine x_getI fl_X5_58 dX5_write_111 ex2 ?_
    refine x_aload_n dX5_write_114 rfl 0 rfl ?_
    obtain ⟨x3, ex3, H⟩ := H
    refine x_getI fl_X5_58 dX5_write_115 ex3 ?_
    refine x_imul dX5_write_118 ?_
    exact x_iret dX5_write_119 ⟨_, rfl, H⟩
  · replace H := H.2 c
    refine x_iconst (v := (0 : Int32)) dX5_write_59 (by decide) ?_
    refine x_istore_n dX5_write_60 rfl (by decide) (lv' := [(3, .int (0 : Int32)), (0, .ref r0), (1, .int i1), (2, .int i2)]) rfl ?_
    refine x_perm [1, 2, 3, 0] rfl ?_
    exact H
set_option maxRecDepth 20000 in
theorem r_X5_write_61 {d : Nat} {P : Int32 → Hp → Prop} {h : Hp} {r0 : Nat} {i1 : Int32} {i2 : Int32} {i3 : Int32} (H : ∃ x1, gI h 5 r0 0 = some x1 ∧ ((x1 ≤ i3 → L_X5_write_51 d P h r0 i1 (i2 + (1 : Int32))) ∧
  (¬ x1 ≤ i3 → ∃ q2, gR h 5 r0 14 = some q2 ∧ ∃ x3, gI h 5 r0 0 = some x3 ∧ ∃ q4, gR h 5 r0 1 = some q4 ∧ ∃ x5, lI h q4 (((10 : Int32) * i2) + i3) = some x5 ∧ ∃ h6, sI h q2 ((((100 : Int32) * i1) + (x3 * i2)) + i3) x5 = some h6 ∧ L_X5_write_61 d P h6 r0 i1 i2 (i3 + (1 : Int32))))) : L_X5_write_61 d P h r0 i1 i2 i3 := by
  show X (KM (some .int) (fun r h' => ∃ x, r = some (.int x) ∧ P x h')) RX5 cX5_write 4 (d + 1) h 61 [(0, .ref r0), (1, .int i1), (2, .int i2), (3, .int i3)] []
  refine x_iload_n dX5_write_61 rfl 3 rfl ?_
  refine x_aload_n dX5_write_62 rfl 0 rfl ?_
  obtain ⟨x1, ex1, H⟩ := H
  refine x_getI fl_X5_58 dX5_write_63 ex1 ?_
  refine x_icmp_ge (tgt := 104) dX5_write_66 (by decide) (fun c => ?_) (fun c => ?_)
  · replace H := H.1 c
    refine x_iinc (q := 2) (v := (i2 + (1 : Int32))) dX5_write_104 rfl rfl (by decide) (lv' := [(2, .int (i2 + (1 : Int32))), (0, .ref r0), (1, .int i1), (3, .int i3)]) rfl ?_
    refine x_goto (tgt := 51) dX5_write_107 (by decide) ?_
    refine x_perm [1, 2, 0] rfl ?_
    exact H
  · replace H := H.2 c
    refine x_aload_n dX5_write_69 rfl 0 rfl ?_
    obtain ⟨q2, eq2, H⟩ := H
    refine x_getR fl_X5_52 dX5_write_70 eq2 ?_
    refine x_bipush (v := (100 : Int32)) dX5_write_73 (by decide) ?_
    refine x_iload_n dX5_write_75 rfl 1 rfl ?_
    refine x_imul dX5_write_76 ?_
    refine x_aload_n dX5_write_77 rfl 0 rfl ?_
    obtain ⟨x3, ex3, H⟩ := H
    refine x_getI fl_X5_58 dX5_write_78 ex3 ?_
    refine x_iload_n dX5_write_81 rfl 2 rfl ?_
    refine x_imul dX5_write_82 ?_
    refine x_iadd dX5_write_83 ?_
    refine x_iload_n dX5_write_84 rfl 3 rfl ?_
    refine x_iadd dX5_write_85 ?_
    refine x_aload_n dX5_write_86 rfl 0 rfl ?_
    obtain ⟨q4, eq4, H⟩ := H
    refine x_getR fl_X5_7 dX5_write_87 eq4 ?_
    refine x_bipush (v := (10 : Int32)) dX5_write_90 (by decide) ?_
    refine x_iload_n dX5_write_92 rfl 2 rfl ?_
    refine x_imul dX5_write_93 ?_
    refine x_iload_n dX5_write_94 rfl 3 rfl ?_
    refine x_iadd dX5_write_95 ?_
    obtain ⟨x5, ex5, H⟩ := H
    refine x_iaload dX5_write_96 ex5 ?_
    obtain ⟨h6, eh6, H⟩ := H
    refine x_iastore dX5_write_97 eh6 ?_
    refine x_iinc (q := 3) (v := (i3 + (1 : Int32))) dX5_write_98 rfl rfl (by decide) (lv' := [(3, .int (i3 + (1 : Int32))), (0, .ref r0), (1, .int i1), (2, .int i2)]) rfl ?_
    refine x_goto (tgt := 61) dX5_write_101 (by decide) ?_
    refine x_perm [1, 2, 3, 0] rfl ?_
    exact H
def L_X5_count_44 (d : Nat) (P : Int32 → Hp → Prop) (h : Hp) (r0 : Nat) (i2 : Int32) (i3 : Int32) : Prop := X (KM (some .int) (fun r h' => ∃ x, r = some (.int x) ∧ P x h')) RX5 cX5_count 5 (d + 1) h 44 [(0, .ref r0), (2, .int i2), (3, .int i3)] []
def L_X5_count_55 (d : Nat) (P : Int32 → Hp → Prop) (h : Hp) (r0 : Nat) (i2 : Int32) (i3 : Int32) (i4 : Int32) : Prop := X (KM (some .int) (fun r h' => ∃ x, r = some (.int x) ∧ P x h')) RX5 cX5_count 5 (d + 1) h 55 [(0, .ref r0), (2, .int i2), (3, .int i3), (4, .int i4)] []
set_option maxRecDepth 20000 in
theorem e_X5_count {d : Nat} {P : Int32 → Hp → Prop} {h : Hp} {r0 : Nat} {i1 : Int32} (ho : r0 < 47 ∧ ∃ fs, h r0 = .inr (5, fs)) (H : ((i1 = nI 0 → ∃ x1, gI h 5 r0 0 = some x1 ∧ P x1 h) ∧
  (i1 = nI 1 → ∃ x2, gI h 5 r0 2 = some x2 ∧ P x2 h) ∧
  (i1 = nI 2 → L_X5_count_44 d P h r0 (0 : Int32) (0 : Int32)) ∧
  (i1 = nI 3 → ∃ x3, gI h 5 r0 16 = some x3 ∧ P x3 h) ∧
  ((i1 < 0 ∨ nI 4 ≤ i1) → P (-2 : Int32) h))) : CI M_X5_count (d + 1) [.ref r0, .int i1] h P := by
  refine ⟨⟨r0, rfl, ho⟩, x_enter (by decide) (Nat.le_of_ble_eq_true rfl) ?_⟩
  show X (KM (some .int) (fun r h' => ∃ x, r = some (.int x) ∧ P x h')) RX5 cX5_count 5 (d + 1) h 0 [(0, .ref r0), (1, .int i1)] []
  refine x_iconst (v := (0 : Int32)) dX5_count_0 (by decide) ?_
  refine x_istore_n dX5_count_1 rfl (by decide) (lv' := [(2, .int (0 : Int32)), (0, .ref r0), (1, .int i1)]) rfl ?_
  refine x_iload_n dX5_count_2 rfl 2 rfl ?_
  refine x_tsw (n := 4) (offs := #[29, 34, 39, 95]) dX5_count_3 rfl (by decide) (fun j hj c => ?_) (fun c => ⟨103, by decide, ?_⟩)
  · match j, hj, c with
    | 0, _, c =>
      refine ⟨29, 32, rfl, by decide, ?_⟩
      replace H := H.1 c
      refine x_aload_n dX5_count_32 rfl 1 rfl ?_
      obtain ⟨x1, ex1, H⟩ := H
      refine x_getI fl_X5_58 dX5_count_33 ex1 ?_
      exact x_iret dX5_count_36 ⟨_, rfl, H⟩
    | 1, _, c =>
      refine ⟨34, 37, rfl, by decide, ?_⟩
      replace H := H.2.1 c
      refine x_aload_n dX5_count_37 rfl 1 rfl ?_
      obtain ⟨x2, ex2, H⟩ := H
      refine x_getI fl_X5_13 dX5_count_38 ex2 ?_
      exact x_iret dX5_count_41 ⟨_, rfl, H⟩
    | 2, _, c =>
      refine ⟨39, 42, rfl, by decide, ?_⟩
      replace H := H.2.2.1 c
      refine x_iconst (v := (0 : Int32)) dX5_count_42 (by decide) ?_
      refine x_istore_n dX5_count_43 rfl (by decide) (lv' := [(3, .int (0 : Int32)), (2, .int (0 : Int32)), (0, .ref r0), (1, .int i1)]) rfl ?_
      refine x_perm [2, 1, 0] rfl ?_
      exact H
    | 3, _, c =>
      refine ⟨95, 98, rfl, by decide, ?_⟩
      replace H := H.2.2.2.1 c
      refine x_aload_n dX5_count_98 rfl 1 rfl ?_
      obtain ⟨x3, ex3, H⟩ := H
      refine x_getI fl_X5_135 dX5_count_99 ex3 ?_
      exact x_iret dX5_count_102 ⟨_, rfl, H⟩
    | k + 4, hk, _ => exact absurd hk (by omega)
  · replace H := H.2.2.2.2 c
    refine x_bipush (v := (-2 : Int32)) dX5_count_103 (by decide) ?_
    exact x_iret dX5_count_105 ⟨_, rfl, H⟩
set_option maxRecDepth 20000 in
theorem r_X5_count_44 {d : Nat} {P : Int32 → Hp → Prop} {h : Hp} {r0 : Nat} {i2 : Int32} {i3 : Int32} (H : ∃ x1, gI h 5 r0 0 = some x1 ∧ ((x1 ≤ i3 → P i2 h) ∧
  (¬ x1 ≤ i3 → L_X5_count_55 d P h r0 i2 i3 (0 : Int32)))) : L_X5_count_44 d P h r0 i2 i3 := by
  show X (KM (some .int) (fun r h' => ∃ x, r = some (.int x) ∧ P x h')) RX5 cX5_count 5 (d + 1) h 44 [(0, .ref r0), (2, .int i2), (3, .int i3)] []
  refine x_iload_n dX5_count_44 rfl 2 rfl ?_
  refine x_aload_n dX5_count_45 rfl 0 rfl ?_
  obtain ⟨x1, ex1, H⟩ := H
  refine x_getI fl_X5_58 dX5_count_46 ex1 ?_
  refine x_icmp_ge (tgt := 96) dX5_count_49 (by decide) (fun c => ?_) (fun c => ?_)
  · replace H := H.1 c
    refine x_iload_n dX5_count_96 rfl 1 rfl ?_
    exact x_iret dX5_count_97 ⟨_, rfl, H⟩
  · replace H := H.2 c
    refine x_iconst (v := (0 : Int32)) dX5_count_52 (by decide) ?_
    refine x_istore dX5_count_53 (by decide) (lv' := [(4, .int (0 : Int32)), (0, .ref r0), (2, .int i2), (3, .int i3)]) rfl ?_
    refine x_perm [1, 2, 3, 0] rfl ?_
    exact H
set_option maxRecDepth 20000 in
theorem r_X5_count_55 {d : Nat} {P : Int32 → Hp → Prop} {h : Hp} {r0 : Nat} {i2 : Int32} {i3 : Int32} {i4 : Int32} (H : ((i3 ≤ i4 → L_X5_count_44 d P h r0 i2 (i3 + (1 : Int32))) ∧
  (¬ i3 ≤ i4 → ∃ q1, gR h 5 r0 1 = some q1 ∧ ∃ x2, lI h q1 (((10 : Int32) * i3) + i4) = some x2 ∧ ((0 ≤ x2 → L_X5_count_55 d P h r0 (i2 + (0 : Int32)) i3 (i4 + (1 : Int32))) ∧
    (¬ 0 ≤ x2 → L_X5_count_55 d P h r0 (i2 + (1 : Int32)) i3 (i4 + (1 : Int32))))))) : L_X5_count_55 d P h r0 i2 i3 i4 := by
  show X (KM (some .int) (fun r h' => ∃ x, r = some (.int x) ∧ P x h')) RX5 cX5_count 5 (d + 1) h 55 [(0, .ref r0), (2, .int i2), (3, .int i3), (4, .int i4)] []
  refine x_iload dX5_count_55 3 rfl ?_
  refine x_iload_n dX5_count_57 rfl 2 rfl ?_
  refine x_icmp_ge (tgt := 90) dX5_count_58 (by decide) (fun c => ?_) (fun c => ?_)
  · replace H := H.1 c
    refine x_iinc (q := 2) (v := (i3 + (1 : Int32))) dX5_count_90 rfl rfl (by decide) (lv' := [(3, .int (i3 + (1 : Int32))), (0, .ref r0), (2, .int i2), (4, .int i4)]) rfl ?_
    refine x_goto (tgt := 44) dX5_count_93 (by decide) ?_
    refine x_perm [1, 2, 0] rfl ?_
    exact H
  · replace H := H.2 c
    refine x_iload_n dX5_count_61 rfl 1 rfl ?_
    refine x_aload_n dX5_count_62 rfl 0 rfl ?_
    obtain ⟨q1, eq1, H⟩ := H
    refine x_getR fl_X5_7 dX5_count_63 eq1 ?_
    refine x_bipush (v := (10 : Int32)) dX5_count_66 (by decide) ?_
    refine x_iload_n dX5_count_68 rfl 2 rfl ?_
    refine x_imul dX5_count_69 ?_
    refine x_iload dX5_count_70 3 rfl ?_
    refine x_iadd dX5_count_72 ?_
    obtain ⟨x2, ex2, H⟩ := H
    refine x_iaload dX5_count_73 ex2 ?_
    refine x_if_ge (tgt := 81) dX5_count_74 (by decide) (fun c => ?_) (fun c => ?_)
    · replace H := H.1 c
      refine x_iconst (v := (0 : Int32)) dX5_count_81 (by decide) ?_
      refine x_iadd dX5_count_82 ?_
      refine x_istore_n dX5_count_83 rfl (by decide) (lv' := [(2, .int (i2 + (0 : Int32))), (0, .ref r0), (3, .int i3), (4, .int i4)]) rfl ?_
      refine x_iinc (q := 3) (v := (i4 + (1 : Int32))) dX5_count_84 rfl rfl (by decide) (lv' := [(4, .int (i4 + (1 : Int32))), (2, .int (i2 + (0 : Int32))), (0, .ref r0), (3, .int i3)]) rfl ?_
      refine x_goto (tgt := 55) dX5_count_87 (by decide) ?_
      refine x_perm [2, 1, 3, 0] rfl ?_
      exact H
    · replace H := H.2 c
      refine x_iconst (v := (1 : Int32)) dX5_count_77 (by decide) ?_
      refine x_goto (tgt := 82) dX5_count_78 (by decide) ?_
      refine x_iadd dX5_count_82 ?_
      refine x_istore_n dX5_count_83 rfl (by decide) (lv' := [(2, .int (i2 + (1 : Int32))), (0, .ref r0), (3, .int i3), (4, .int i4)]) rfl ?_
      refine x_iinc (q := 3) (v := (i4 + (1 : Int32))) dX5_count_84 rfl rfl (by decide) (lv' := [(4, .int (i4 + (1 : Int32))), (2, .int (i2 + (1 : Int32))), (0, .ref r0), (3, .int i3)]) rfl ?_
      refine x_goto (tgt := 55) dX5_count_87 (by decide) ?_
      refine x_perm [2, 1, 3, 0] rfl ?_
      exact H
def L_X5_digest_6 (d : Nat) (P : Int64 → Hp → Prop) (h : Hp) (r0 : Nat) (l1 : Int64) (i3 : Int32) : Prop := X (KM (some .long) (fun r h' => ∃ x, r = some (.long x) ∧ P x h')) RX5 cX5_digest 5 (d + 1) h 6 [(0, .ref r0), (1, .long l1), (3, .int i3)] []
def L_X5_digest_32 (d : Nat) (P : Int64 → Hp → Prop) (h : Hp) (r0 : Nat) (l1 : Int64) (i3 : Int32) : Prop := X (KM (some .long) (fun r h' => ∃ x, r = some (.long x) ∧ P x h')) RX5 cX5_digest 5 (d + 1) h 32 [(0, .ref r0), (1, .long l1), (3, .int i3)] []
def L_X5_digest_43 (d : Nat) (P : Int64 → Hp → Prop) (h : Hp) (r0 : Nat) (l1 : Int64) (i3 : Int32) (i4 : Int32) : Prop := X (KM (some .long) (fun r h' => ∃ x, r = some (.long x) ∧ P x h')) RX5 cX5_digest 5 (d + 1) h 43 [(0, .ref r0), (1, .long l1), (3, .int i3), (4, .int i4)] []
set_option maxRecDepth 20000 in
theorem e_X5_digest {d : Nat} {P : Int64 → Hp → Prop} {h : Hp} {r0 : Nat} (ho : r0 < 47 ∧ ∃ fs, h r0 = .inr (5, fs)) (H : L_X5_digest_6 d P h r0 (17 : Int64) (0 : Int32)) : CJ M_X5_digest (d + 1) [.ref r0] h P := by
  refine ⟨⟨r0, rfl, ho⟩, x_enter (by decide) (Nat.le_of_ble_eq_true rfl) ?_⟩
  show X (KM (some .long) (fun r h' => ∃ x, r = some (.long x) ∧ P x h')) RX5 cX5_digest 5 (d + 1) h 0 [(0, .ref r0)] []
  refine x_ldc2 (v := (17 : Int64)) (lw_gm (i := 820) (by decide +kernel) rfl) dX5_digest_0 ?_
  refine x_lstore_n dX5_digest_3 rfl (by decide) (lv' := [(1, .long (17 : Int64)), (0, .ref r0)]) rfl ?_
  refine x_iconst (v := (0 : Int32)) dX5_digest_4 (by decide) ?_
  refine x_istore_n dX5_digest_5 rfl (by decide) (lv' := [(3, .int (0 : Int32)), (1, .long (17 : Int64)), (0, .ref r0)]) rfl ?_
  refine x_perm [2, 1, 0] rfl ?_
  exact H
set_option maxRecDepth 20000 in
theorem r_X5_digest_6 {d : Nat} {P : Int64 → Hp → Prop} {h : Hp} {r0 : Nat} {l1 : Int64} {i3 : Int32} (H : (((3 : Int32) ≤ i3 → L_X5_digest_32 d P h r0 l1 (0 : Int32)) ∧
  (¬ (3 : Int32) ≤ i3 → CI M_X5_count d [.ref r0, .int i3] h (fun x2 h1 => L_X5_digest_6 d P h1 r0 (((31 : Int64) * l1) + x2.toInt64) (i3 + (1 : Int32)))))) : L_X5_digest_6 d P h r0 l1 i3 := by
  show X (KM (some .long) (fun r h' => ∃ x, r = some (.long x) ∧ P x h')) RX5 cX5_digest 5 (d + 1) h 6 [(0, .ref r0), (1, .long l1), (3, .int i3)] []
  refine x_iload_n dX5_digest_6 rfl 2 rfl ?_
  refine x_iconst (v := (3 : Int32)) dX5_digest_7 (by decide) ?_
  refine x_icmp_ge (tgt := 30) dX5_digest_8 (by decide) (fun c => ?_) (fun c => ?_)
  · replace H := H.1 c
    refine x_iconst (v := (0 : Int32)) dX5_digest_30 (by decide) ?_
    refine x_istore_n dX5_digest_31 rfl (by decide) (lv' := [(3, .int (0 : Int32)), (0, .ref r0), (1, .long l1)]) rfl ?_
    refine x_perm [1, 2, 0] rfl ?_
    exact H
  · replace H := H.2 c
    refine x_ldc2 (v := (31 : Int64)) (lw_gm (i := 821) (by decide +kernel) rfl) dX5_digest_11 ?_
    refine x_lload_n dX5_digest_14 rfl 1 rfl ?_
    refine x_lmul dX5_digest_15 ?_
    refine x_aload_n dX5_digest_16 rfl 0 rfl ?_
    refine x_iload_n dX5_digest_17 rfl 2 rfl ?_
    refine x_vI vl_X5_155 dX5_digest_18 (As := [.int i3]) rfl rfl (Nat.le_of_ble_eq_true rfl) (CI.mono H (fun x2 h1 H => ?_))
    refine x_i2l dX5_digest_21 ?_
    refine x_ladd dX5_digest_22 ?_
    refine x_lstore_n dX5_digest_23 rfl (by decide) (lv' := [(1, .long (((31 : Int64) * l1) + x2.toInt64)), (0, .ref r0), (3, .int i3)]) rfl ?_
    refine x_iinc (q := 2) (v := (i3 + (1 : Int32))) dX5_digest_24 rfl rfl (by decide) (lv' := [(3, .int (i3 + (1 : Int32))), (1, .long (((31 : Int64) * l1) + x2.toInt64)), (0, .ref r0)]) rfl ?_
    refine x_goto (tgt := 6) dX5_digest_27 (by decide) ?_
    refine x_perm [2, 1, 0] rfl ?_
    exact H
set_option maxRecDepth 20000 in
theorem r_X5_digest_32 {d : Nat} {P : Int64 → Hp → Prop} {h : Hp} {r0 : Nat} {l1 : Int64} {i3 : Int32} (H : ∃ x1, gI h 5 r0 0 = some x1 ∧ ((x1 ≤ i3 → CI M_X5_odd d [.ref r0] h (fun x3 h2 => P (((31 : Int64) * l1) + x3.toInt64) h2)) ∧
  (¬ x1 ≤ i3 → L_X5_digest_43 d P h r0 l1 i3 (0 : Int32)))) : L_X5_digest_32 d P h r0 l1 i3 := by
  show X (KM (some .long) (fun r h' => ∃ x, r = some (.long x) ∧ P x h')) RX5 cX5_digest 5 (d + 1) h 32 [(0, .ref r0), (1, .long l1), (3, .int i3)] []
  refine x_iload_n dX5_digest_32 rfl 2 rfl ?_
  refine x_aload_n dX5_digest_33 rfl 0 rfl ?_
  obtain ⟨x1, ex1, H⟩ := H
  refine x_getI fl_X5_58 dX5_digest_34 ex1 ?_
  refine x_icmp_ge (tgt := 84) dX5_digest_37 (by decide) (fun c => ?_) (fun c => ?_)
  · replace H := H.1 c
    refine x_ldc2 (v := (31 : Int64)) (lw_gm (i := 821) (by decide +kernel) rfl) dX5_digest_84 ?_
    refine x_lload_n dX5_digest_87 rfl 1 rfl ?_
    refine x_lmul dX5_digest_88 ?_
    refine x_aload_n dX5_digest_89 rfl 0 rfl ?_
    refine x_vI vl_X5_158 dX5_digest_90 (As := []) rfl rfl (Nat.le_of_ble_eq_true rfl) (CI.mono H (fun x3 h2 H => ?_))
    refine x_i2l dX5_digest_93 ?_
    refine x_ladd dX5_digest_94 ?_
    exact x_lret dX5_digest_95 ⟨_, rfl, H⟩
  · replace H := H.2 c
    refine x_iconst (v := (0 : Int32)) dX5_digest_40 (by decide) ?_
    refine x_istore dX5_digest_41 (by decide) (lv' := [(4, .int (0 : Int32)), (0, .ref r0), (1, .long l1), (3, .int i3)]) rfl ?_
    refine x_perm [1, 2, 3, 0] rfl ?_
    exact H
set_option maxRecDepth 20000 in
theorem r_X5_digest_43 {d : Nat} {P : Int64 → Hp → Prop} {h : Hp} {r0 : Nat} {l1 : Int64} {i3 : Int32} {i4 : Int32} (H : ∃ x1, gI h 5 r0 0 = some x1 ∧ ((x1 ≤ i4 → L_X5_digest_32 d P h r0 l1 (i3 + (1 : Int32))) ∧
  (¬ x1 ≤ i4 → ∃ q2, gR h 5 r0 1 = some q2 ∧ ∃ x3, lI h q2 (((10 : Int32) * i3) + i4) = some x3 ∧ L_X5_digest_43 d P h r0 (((31 : Int64) * l1) + x3.toInt64) i3 (i4 + (1 : Int32))))) : L_X5_digest_43 d P h r0 l1 i3 i4 := by
  show X (KM (some .long) (fun r h' => ∃ x, r = some (.long x) ∧ P x h')) RX5 cX5_digest 5 (d + 1) h 43 [(0, .ref r0), (1, .long l1), (3, .int i3), (4, .int i4)] []
  refine x_iload dX5_digest_43 3 rfl ?_
  refine x_aload_n dX5_digest_45 rfl 0 rfl ?_
  obtain ⟨x1, ex1, H⟩ := H
  refine x_getI fl_X5_58 dX5_digest_46 ex1 ?_
  refine x_icmp_ge (tgt := 78) dX5_digest_49 (by decide) (fun c => ?_) (fun c => ?_)
  · replace H := H.1 c
    refine x_iinc (q := 2) (v := (i3 + (1 : Int32))) dX5_digest_78 rfl rfl (by decide) (lv' := [(3, .int (i3 + (1 : Int32))), (0, .ref r0), (1, .long l1), (4, .int i4)]) rfl ?_
    refine x_goto (tgt := 32) dX5_digest_81 (by decide) ?_
    refine x_perm [1, 2, 0] rfl ?_
    exact H
  · replace H := H.2 c
    refine x_ldc2 (v := (31 : Int64)) (lw_gm (i := 821) (by decide +kernel) rfl) dX5_digest_52 ?_
    refine x_lload_n dX5_digest_55 rfl 1 rfl ?_
    refine x_lmul dX5_digest_56 ?_
    refine x_aload_n dX5_digest_57 rfl 0 rfl ?_
    obtain ⟨q2, eq2, H⟩ := H
    refine x_getR fl_X5_7 dX5_digest_58 eq2 ?_
    refine x_bipush (v := (10 : Int32)) dX5_digest_61 (by decide) ?_
    refine x_iload_n dX5_digest_63 rfl 2 rfl ?_
    refine x_imul dX5_digest_64 ?_
    refine x_iload dX5_digest_65 3 rfl ?_
    refine x_iadd dX5_digest_67 ?_
    obtain ⟨x3, ex3, H⟩ := H
    refine x_iaload dX5_digest_68 ex3 ?_
    refine x_i2l dX5_digest_69 ?_
    refine x_ladd dX5_digest_70 ?_
    refine x_lstore_n dX5_digest_71 rfl (by decide) (lv' := [(1, .long (((31 : Int64) * l1) + x3.toInt64)), (0, .ref r0), (3, .int i3), (4, .int i4)]) rfl ?_
    refine x_iinc (q := 3) (v := (i4 + (1 : Int32))) dX5_digest_72 rfl rfl (by decide) (lv' := [(4, .int (i4 + (1 : Int32))), (1, .long (((31 : Int64) * l1) + x3.toInt64)), (0, .ref r0), (3, .int i3)]) rfl ?_
    refine x_goto (tgt := 43) dX5_digest_75 (by decide) ?_
    refine x_perm [2, 1, 3, 0] rfl ?_
    exact H
