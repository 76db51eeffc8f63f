set_option maxRecDepth 20000 in
theorem e_X4_lines {d : Nat} {P : Int32 → Hp → Prop} {h : Hp} {r0 : Nat} {i1 : Int32} (ho : r0 < 47 ∧ ∃ fs, h r0 = .inr (4, fs)) (H : CI M_X4_isLineCount d [.int i1] h (fun x2 h1 => ((¬ x2 = 0 → ∃ q3, gR h1 4 r0 0 = some q3 ∧ ∃ x4, gI h1 3 q3 1 = some x4 ∧ ∃ q5, gR h1 4 r0 0 = some q5 ∧ CV M_X3_start d [.ref q5, .int i1] h1 (fun h6 => P x4 h6)) ∧
  (x2 = 0 → P (-2 : Int32) h1)))) : CI M_X4_lines (d + 1) [.ref r0, .int i1] h P := by
  refine ⟨⟨r0, rfl, ho⟩, x_enter (by decide) (Nat.le_of_ble_eq_true rfl) ?_⟩
  show X (KM (some .int) (fun r h' => ∃ x, r = some (.int x) ∧ P x h')) RX4 cX4_lines 3 (d + 1) h 0 [(0, .ref r0), (1, .int i1)] []
  refine x_iload_n dX4_lines_0 rfl 1 rfl ?_
  refine x_sI sl_X4_47 dX4_lines_1 (As := [.int i1]) rfl rfl (Nat.le_of_ble_eq_true rfl) (CI.mono H (fun x2 h1 H => ?_))
  refine x_if_ne (tgt := 10) dX4_lines_4 (by decide) (fun c => ?_) (fun c => ?_)
  · replace H := H.1 c
    refine x_aload_n dX4_lines_10 rfl 0 rfl ?_
    obtain ⟨q3, eq3, H⟩ := H
    refine x_getR fl_X4_10 dX4_lines_11 eq3 ?_
    obtain ⟨x4, ex4, H⟩ := H
    refine x_getI fl_X4_51 dX4_lines_14 ex4 ?_
    refine x_istore_n dX4_lines_17 rfl (by decide) (lv' := [(2, .int x4), (0, .ref r0), (1, .int i1)]) rfl ?_
    refine x_aload_n dX4_lines_18 rfl 1 rfl ?_
    obtain ⟨q5, eq5, H⟩ := H
    refine x_getR fl_X4_10 dX4_lines_19 eq5 ?_
    refine x_iload_n dX4_lines_22 rfl 2 rfl ?_
    refine x_vV vl_X4_54 dX4_lines_23 (As := [.int i1]) rfl rfl (Nat.le_of_ble_eq_true rfl) (CV.mono H (fun h6 H => ?_))
    refine x_iload_n dX4_lines_26 rfl 0 rfl ?_
    exact x_iret dX4_lines_27 ⟨_, rfl, H⟩
  · replace H := H.2 c
    refine x_bipush (v := (-2 : Int32)) dX4_lines_7 (by decide) ?_
    exact x_iret dX4_lines_9 ⟨_, rfl, H⟩
set_option maxRecDepth 20000 in
theorem e_X4_sign {d : Nat} {P : Int32 → Hp → Prop} {h : Hp} {r0 : Nat} {i1 : Int32} {i2 : Int32} {i3 : Int32} (ho : r0 < 47 ∧ ∃ fs, h r0 = .inr (4, fs)) (H : CI M_X4_areTwoLines d [.ref r0, .int i1, .int i2] h (fun x2 h1 => ((x2 = 0 → P (-2 : Int32) h1) ∧
  (¬ x2 = 0 → ((i3 = (1 : Int32) → ∃ q3, gR h1 4 r0 0 = some q3 ∧ CI M_X3_entry d [.ref q3, .int i1, .int i2] h1 (fun x5 h4 => ∃ q6, gR h4 4 r0 0 = some q6 ∧ ((¬ i3 = (-1 : Int32) → CV M_X3_setMinus d [.ref q6, .int i1, .int i2, .int (0 : Int32)] h4 (fun h7 => P x5 h7)) ∧
      (i3 = (-1 : Int32) → CV M_X3_setMinus d [.ref q6, .int i1, .int i2, .int (1 : Int32)] h4 (fun h8 => P x5 h8))))) ∧
    (¬ i3 = (1 : Int32) → ((i3 = (-1 : Int32) → ∃ q9, gR h1 4 r0 0 = some q9 ∧ CI M_X3_entry d [.ref q9, .int i1, .int i2] h1 (fun x11 h10 => ∃ q12, gR h10 4 r0 0 = some q12 ∧ ((¬ i3 = (-1 : Int32) → CV M_X3_setMinus d [.ref q12, .int i1, .int i2, .int (0 : Int32)] h10 (fun h13 => P x11 h13)) ∧
        (i3 = (-1 : Int32) → CV M_X3_setMinus d [.ref q12, .int i1, .int i2, .int (1 : Int32)] h10 (fun h14 => P x11 h14))))) ∧
      (¬ i3 = (-1 : Int32) → P (-2 : Int32) h1)))))))) : CI M_X4_sign (d + 1) [.ref r0, .int i1, .int i2, .int i3] h P := by
  refine ⟨⟨r0, rfl, ho⟩, x_enter (by decide) (Nat.le_of_ble_eq_true rfl) ?_⟩
  show X (KM (some .int) (fun r h' => ∃ x, r = some (.int x) ∧ P x h')) RX4 cX4_sign 5 (d + 1) h 0 [(0, .ref r0), (1, .int i1), (2, .int i2), (3, .int i3)] []
  refine x_aload_n dX4_sign_0 rfl 0 rfl ?_
  refine x_iload_n dX4_sign_1 rfl 1 rfl ?_
  refine x_iload_n dX4_sign_2 rfl 2 rfl ?_
  refine x_vI vl_X4_58 dX4_sign_3 (As := [.int i1, .int i2]) rfl rfl (Nat.le_of_ble_eq_true rfl) (CI.mono H (fun x2 h1 H => ?_))
  refine x_if_eq (tgt := 19) dX4_sign_6 (by decide) (fun c => ?_) (fun c => ?_)
  · replace H := H.1 c
    refine x_bipush (v := (-2 : Int32)) dX4_sign_19 (by decide) ?_
    exact x_iret dX4_sign_21 ⟨_, rfl, H⟩
  · replace H := H.2 c
    refine x_iload_n dX4_sign_9 rfl 3 rfl ?_
    refine x_iconst (v := (1 : Int32)) dX4_sign_10 (by decide) ?_
    refine x_icmp_eq (tgt := 22) dX4_sign_11 (by decide) (fun c => ?_) (fun c => ?_)
    · replace H := H.1 c
      refine x_aload_n dX4_sign_22 rfl 0 rfl ?_
      obtain ⟨q3, eq3, H⟩ := H
      refine x_getR fl_X4_10 dX4_sign_23 eq3 ?_
      refine x_iload_n dX4_sign_26 rfl 1 rfl ?_
      refine x_iload_n dX4_sign_27 rfl 2 rfl ?_
      refine x_vI vl_X4_62 dX4_sign_28 (As := [.int i1, .int i2]) rfl rfl (Nat.le_of_ble_eq_true rfl) (CI.mono H (fun x5 h4 H => ?_))
      refine x_istore dX4_sign_31 (by decide) (lv' := [(4, .int x5), (0, .ref r0), (1, .int i1), (2, .int i2), (3, .int i3)]) rfl ?_
      refine x_aload_n dX4_sign_33 rfl 1 rfl ?_
      obtain ⟨q6, eq6, H⟩ := H
      refine x_getR fl_X4_10 dX4_sign_34 eq6 ?_
      refine x_iload_n dX4_sign_37 rfl 2 rfl ?_
      refine x_iload_n dX4_sign_38 rfl 3 rfl ?_
      refine x_iload_n dX4_sign_39 rfl 4 rfl ?_
      refine x_iconst (v := (-1 : Int32)) dX4_sign_40 (by decide) ?_
      refine x_icmp_ne (tgt := 48) dX4_sign_41 (by decide) (fun c => ?_) (fun c => ?_)
      · replace H := H.1 c
        refine x_iconst (v := (0 : Int32)) dX4_sign_48 (by decide) ?_
        refine x_vV vl_X4_66 dX4_sign_49 (As := [.int i1, .int i2, .int (0 : Int32)]) rfl rfl (Nat.le_of_ble_eq_true rfl) (CV.mono H (fun h7 H => ?_))
        refine x_iload dX4_sign_52 0 rfl ?_
        exact x_iret dX4_sign_54 ⟨_, rfl, H⟩
      · replace H := H.2 c
        refine x_iconst (v := (1 : Int32)) dX4_sign_44 (by decide) ?_
        refine x_goto (tgt := 49) dX4_sign_45 (by decide) ?_
        refine x_vV vl_X4_66 dX4_sign_49 (As := [.int i1, .int i2, .int (1 : Int32)]) rfl rfl (Nat.le_of_ble_eq_true rfl) (CV.mono H (fun h8 H => ?_))
        refine x_iload dX4_sign_52 0 rfl ?_
        exact x_iret dX4_sign_54 ⟨_, rfl, H⟩
    · replace H := H.2 c
      refine x_iload_n dX4_sign_14 rfl 3 rfl ?_
      refine x_iconst (v := (-1 : Int32)) dX4_sign_15 (by decide) ?_
      refine x_icmp_eq (tgt := 22) dX4_sign_16 (by decide) (fun c => ?_) (fun c => ?_)
      · replace H := H.1 c
        refine x_aload_n dX4_sign_22 rfl 0 rfl ?_
        obtain ⟨q9, eq9, H⟩ := H
        refine x_getR fl_X4_10 dX4_sign_23 eq9 ?_
        refine x_iload_n dX4_sign_26 rfl 1 rfl ?_
        refine x_iload_n dX4_sign_27 rfl 2 rfl ?_
        refine x_vI vl_X4_62 dX4_sign_28 (As := [.int i1, .int i2]) rfl rfl (Nat.le_of_ble_eq_true rfl) (CI.mono H (fun x11 h10 H => ?_))
        refine x_istore dX4_sign_31 (by decide) (lv' := [(4, .int x11), (0, .ref r0), (1, .int i1), (2, .int i2), (3, .int i3)]) rfl ?_
        refine x_aload_n dX4_sign_33 rfl 1 rfl ?_
        obtain ⟨q12, eq12, H⟩ := H
        refine x_getR fl_X4_10 dX4_sign_34 eq12 ?_
        refine x_iload_n dX4_sign_37 rfl 2 rfl ?_
        refine x_iload_n dX4_sign_38 rfl 3 rfl ?_
        refine x_iload_n dX4_sign_39 rfl 4 rfl ?_
        refine x_iconst (v := (-1 : Int32)) dX4_sign_40 (by decide) ?_
        refine x_icmp_ne (tgt := 48) dX4_sign_41 (by decide) (fun c => ?_) (fun c => ?_)
        · replace H := H.1 c
          refine x_iconst (v := (0 : Int32)) dX4_sign_48 (by decide) ?_
          refine x_vV vl_X4_66 dX4_sign_49 (As := [.int i1, .int i2, .int (0 : Int32)]) rfl rfl (Nat.le_of_ble_eq_true rfl) (CV.mono H (fun h13 H => ?_))
          refine x_iload dX4_sign_52 0 rfl ?_
          exact x_iret dX4_sign_54 ⟨_, rfl, H⟩
        · replace H := H.2 c
          refine x_iconst (v := (1 : Int32)) dX4_sign_44 (by decide) ?_
          refine x_goto (tgt := 49) dX4_sign_45 (by decide) ?_
          refine x_vV vl_X4_66 dX4_sign_49 (As := [.int i1, .int i2, .int (1 : Int32)]) rfl rfl (Nat.le_of_ble_eq_true rfl) (CV.mono H (fun h14 H => ?_))
          refine x_iload dX4_sign_52 0 rfl ?_
          exact x_iret dX4_sign_54 ⟨_, rfl, H⟩
      · replace H := H.2 c
        refine x_bipush (v := (-2 : Int32)) dX4_sign_19 (by decide) ?_
        exact x_iret dX4_sign_21 ⟨_, rfl, H⟩
set_option maxRecDepth 20000 in
theorem e_X4_at {d : Nat} {P : Int32 → Hp → Prop} {h : Hp} {r0 : Nat} {i1 : Int32} {i2 : Int32} (ho : r0 < 47 ∧ ∃ fs, h r0 = .inr (4, fs)) (H : ∃ q1, gR h 4 r0 0 = some q1 ∧ CI M_X3_hasLine d [.ref q1, .int i1] h (fun x3 h2 => ((x3 = 0 → P (-2 : Int32) h2) ∧
  (¬ x3 = 0 → ∃ q4, gR h2 4 r0 0 = some q4 ∧ CI M_X3_hasLine d [.ref q4, .int i2] h2 (fun x6 h5 => ((¬ x6 = 0 → ∃ q7, gR h5 4 r0 0 = some q7 ∧ CI M_X3_entry d [.ref q7, .int i1, .int i2] h5 (fun x9 h8 => P x9 h8)) ∧
    (x6 = 0 → P (-2 : Int32) h5))))))) : CI M_X4_at (d + 1) [.ref r0, .int i1, .int i2] h P := by
  refine ⟨⟨r0, rfl, ho⟩, x_enter (by decide) (Nat.le_of_ble_eq_true rfl) ?_⟩
  show X (KM (some .int) (fun r h' => ∃ x, r = some (.int x) ∧ P x h')) RX4 cX4_at 3 (d + 1) h 0 [(0, .ref r0), (1, .int i1), (2, .int i2)] []
  refine x_aload_n dX4_at_0 rfl 0 rfl ?_
  obtain ⟨q1, eq1, H⟩ := H
  refine x_getR fl_X4_10 dX4_at_1 eq1 ?_
  refine x_iload_n dX4_at_4 rfl 1 rfl ?_
  refine x_vI vl_X4_70 dX4_at_5 (As := [.int i1]) rfl rfl (Nat.le_of_ble_eq_true rfl) (CI.mono H (fun x3 h2 H => ?_))
  refine x_if_eq (tgt := 22) dX4_at_8 (by decide) (fun c => ?_) (fun c => ?_)
  · replace H := H.1 c
    refine x_bipush (v := (-2 : Int32)) dX4_at_22 (by decide) ?_
    exact x_iret dX4_at_24 ⟨_, rfl, H⟩
  · replace H := H.2 c
    refine x_aload_n dX4_at_11 rfl 0 rfl ?_
    obtain ⟨q4, eq4, H⟩ := H
    refine x_getR fl_X4_10 dX4_at_12 eq4 ?_
    refine x_iload_n dX4_at_15 rfl 2 rfl ?_
    refine x_vI vl_X4_70 dX4_at_16 (As := [.int i2]) rfl rfl (Nat.le_of_ble_eq_true rfl) (CI.mono H (fun x6 h5 H => ?_))
    refine x_if_ne (tgt := 25) dX4_at_19 (by decide) (fun c => ?_) (fun c => ?_)
    · replace H := H.1 c
      refine x_aload_n dX4_at_25 rfl 0 rfl ?_
      obtain ⟨q7, eq7, H⟩ := H
      refine x_getR fl_X4_10 dX4_at_26 eq7 ?_
      refine x_iload_n dX4_at_29 rfl 1 rfl ?_
      refine x_iload_n dX4_at_30 rfl 2 rfl ?_
      refine x_vI vl_X4_62 dX4_at_31 (As := [.int i1, .int i2]) rfl rfl (Nat.le_of_ble_eq_true rfl) (CI.mono H (fun x9 h8 H => ?_))
      exact x_iret dX4_at_34 ⟨_, rfl, H⟩
    · replace H := H.2 c
      refine x_bipush (v := (-2 : Int32)) dX4_at_22 (by decide) ?_
      exact x_iret dX4_at_24 ⟨_, rfl, H⟩
set_option maxRecDepth 20000 in
theorem e_X4_turn {d : Nat} {P : Int32 → Hp → Prop} {h : Hp} {r0 : Nat} {i1 : Int32} (ho : r0 < 47 ∧ ∃ fs, h r0 = .inr (4, fs)) (H : ∃ q1, gR h 4 r0 0 = some q1 ∧ CI M_X3_hasLine d [.ref q1, .int i1] h (fun x3 h2 => ((¬ x3 = 0 → ∃ q4, gR h2 4 r0 0 = some q4 ∧ CV M_X3_turnLine d [.ref q4, .int i1] h2 (fun h5 => ∃ q6, gR h5 4 r0 0 = some q6 ∧ ∃ q7, gR h5 3 q6 0 = some q7 ∧ ∃ x8, lI h5 q7 i1 = some x8 ∧ CI M_J6_bitCount d [.int x8] h5 (fun x10 h9 => P x10 h9))) ∧
  (x3 = 0 → P (-2 : Int32) h2)))) : CI M_X4_turn (d + 1) [.ref r0, .int i1] h P := by
  refine ⟨⟨r0, rfl, ho⟩, x_enter (by decide) (Nat.le_of_ble_eq_true rfl) ?_⟩
  show X (KM (some .int) (fun r h' => ∃ x, r = some (.int x) ∧ P x h')) RX4 cX4_turn 2 (d + 1) h 0 [(0, .ref r0), (1, .int i1)] []
  refine x_aload_n dX4_turn_0 rfl 0 rfl ?_
  obtain ⟨q1, eq1, H⟩ := H
  refine x_getR fl_X4_10 dX4_turn_1 eq1 ?_
  refine x_iload_n dX4_turn_4 rfl 1 rfl ?_
  refine x_vI vl_X4_70 dX4_turn_5 (As := [.int i1]) rfl rfl (Nat.le_of_ble_eq_true rfl) (CI.mono H (fun x3 h2 H => ?_))
  refine x_if_ne (tgt := 14) dX4_turn_8 (by decide) (fun c => ?_) (fun c => ?_)
  · replace H := H.1 c
    refine x_aload_n dX4_turn_14 rfl 0 rfl ?_
    obtain ⟨q4, eq4, H⟩ := H
    refine x_getR fl_X4_10 dX4_turn_15 eq4 ?_
    refine x_iload_n dX4_turn_18 rfl 1 rfl ?_
    refine x_vV vl_X4_73 dX4_turn_19 (As := [.int i1]) rfl rfl (Nat.le_of_ble_eq_true rfl) (CV.mono H (fun h5 H => ?_))
    refine x_aload_n dX4_turn_22 rfl 0 rfl ?_
    obtain ⟨q6, eq6, H⟩ := H
    refine x_getR fl_X4_10 dX4_turn_23 eq6 ?_
    obtain ⟨q7, eq7, H⟩ := H
    refine x_getR fl_X4_76 dX4_turn_26 eq7 ?_
    refine x_iload_n dX4_turn_29 rfl 1 rfl ?_
    obtain ⟨x8, ex8, H⟩ := H
    refine x_iaload dX4_turn_30 ex8 ?_
    refine x_sI sl_X4_80 dX4_turn_31 (As := [.int x8]) rfl rfl (Nat.le_of_ble_eq_true rfl) (CI.mono H (fun x10 h9 H => ?_))
    exact x_iret dX4_turn_34 ⟨_, rfl, H⟩
  · replace H := H.2 c
    refine x_bipush (v := (-2 : Int32)) dX4_turn_11 (by decide) ?_
    exact x_iret dX4_turn_13 ⟨_, rfl, H⟩
set_option maxRecDepth 20000 in
theorem e_X4_change {d : Nat} {P : Int32 → Hp → Prop} {h : Hp} {r0 : Nat} {i1 : Int32} {i2 : Int32} (ho : r0 < 47 ∧ ∃ fs, h r0 = .inr (4, fs)) (H : ∃ q1, gR h 4 r0 0 = some q1 ∧ CI M_X3_hasLine d [.ref q1, .int i1] h (fun x3 h2 => ((x3 = 0 → P (-2 : Int32) h2) ∧
  (¬ x3 = 0 → ∃ q4, gR h2 4 r0 0 = some q4 ∧ CI M_X3_hasLine d [.ref q4, .int i2] h2 (fun x6 h5 => ((¬ x6 = 0 → ∃ q7, gR h5 4 r0 0 = some q7 ∧ CV M_X3_swapLines d [.ref q7, .int i1, .int i2] h5 (fun h8 => P (1 : Int32) h8)) ∧
    (x6 = 0 → P (-2 : Int32) h5))))))) : CI M_X4_change (d + 1) [.ref r0, .int i1, .int i2] h P := by
  refine ⟨⟨r0, rfl, ho⟩, x_enter (by decide) (Nat.le_of_ble_eq_true rfl) ?_⟩
  show X (KM (some .int) (fun r h' => ∃ x, r = some (.int x) ∧ P x h')) RX4 cX4_change 3 (d + 1) h 0 [(0, .ref r0), (1, .int i1), (2, .int i2)] []
  refine x_aload_n dX4_change_0 rfl 0 rfl ?_
  obtain ⟨q1, eq1, H⟩ := H
  refine x_getR fl_X4_10 dX4_change_1 eq1 ?_
  refine x_iload_n dX4_change_4 rfl 1 rfl ?_
  refine x_vI vl_X4_70 dX4_change_5 (As := [.int i1]) rfl rfl (Nat.le_of_ble_eq_true rfl) (CI.mono H (fun x3 h2 H => ?_))
  refine x_if_eq (tgt := 22) dX4_change_8 (by decide) (fun c => ?_) (fun c => ?_)
  · replace H := H.1 c
    refine x_bipush (v := (-2 : Int32)) dX4_change_22 (by decide) ?_
    exact x_iret dX4_change_24 ⟨_, rfl, H⟩
  · replace H := H.2 c
    refine x_aload_n dX4_change_11 rfl 0 rfl ?_
    obtain ⟨q4, eq4, H⟩ := H
    refine x_getR fl_X4_10 dX4_change_12 eq4 ?_
    refine x_iload_n dX4_change_15 rfl 2 rfl ?_
    refine x_vI vl_X4_70 dX4_change_16 (As := [.int i2]) rfl rfl (Nat.le_of_ble_eq_true rfl) (CI.mono H (fun x6 h5 H => ?_))
    refine x_if_ne (tgt := 25) dX4_change_19 (by decide) (fun c => ?_) (fun c => ?_)
    · replace H := H.1 c
      refine x_aload_n dX4_change_25 rfl 0 rfl ?_
      obtain ⟨q7, eq7, H⟩ := H
      refine x_getR fl_X4_10 dX4_change_26 eq7 ?_
      refine x_iload_n dX4_change_29 rfl 1 rfl ?_
      refine x_iload_n dX4_change_30 rfl 2 rfl ?_
      refine x_vV vl_X4_86 dX4_change_31 (As := [.int i1, .int i2]) rfl rfl (Nat.le_of_ble_eq_true rfl) (CV.mono H (fun h8 H => ?_))
      refine x_iconst (v := (1 : Int32)) dX4_change_34 (by decide) ?_
      exact x_iret dX4_change_35 ⟨_, rfl, H⟩
    · replace H := H.2 c
      refine x_bipush (v := (-2 : Int32)) dX4_change_22 (by decide) ?_
      exact x_iret dX4_change_24 ⟨_, rfl, H⟩
set_option maxRecDepth 20000 in
theorem e_X4_odd {d : Nat} {P : Int32 → Hp → Prop} {h : Hp} {r0 : Nat} (ho : r0 < 47 ∧ ∃ fs, h r0 = .inr (4, fs)) (H : ∃ q1, gR h 4 r0 0 = some q1 ∧ CI M_X3_oddTriples d [.ref q1] h (fun x3 h2 => P x3 h2)) : CI M_X4_odd (d + 1) [.ref r0] h P := by
  refine ⟨⟨r0, rfl, ho⟩, x_enter (by decide) (Nat.le_of_ble_eq_true rfl) ?_⟩
  show X (KM (some .int) (fun r h' => ∃ x, r = some (.int x) ∧ P x h')) RX4 cX4_odd 1 (d + 1) h 0 [(0, .ref r0)] []
  refine x_aload_n dX4_odd_0 rfl 0 rfl ?_
  obtain ⟨q1, eq1, H⟩ := H
  refine x_getR fl_X4_10 dX4_odd_1 eq1 ?_
  refine x_vI vl_X4_90 dX4_odd_4 (As := []) rfl rfl (Nat.le_of_ble_eq_true rfl) (CI.mono H (fun x3 h2 H => ?_))
  exact x_iret dX4_odd_7 ⟨_, rfl, H⟩
set_option maxRecDepth 20000 in
theorem e_X4_together {d : Nat} {P : Int32 → Hp → Prop} {h : Hp} {r0 : Nat} {i1 : Int32} {i2 : Int32} (ho : r0 < 47 ∧ ∃ fs, h r0 = .inr (4, fs)) (H : CI M_X4_areTwoLines d [.ref r0, .int i1, .int i2] h (fun x2 h1 => ((¬ x2 = 0 → ∃ q3, gR h1 4 r0 0 = some q3 ∧ CI M_X3_oddTriplesWith d [.ref q3, .int i1, .int i2] h1 (fun x5 h4 => P x5 h4)) ∧
  (x2 = 0 → P (-2 : Int32) h1)))) : CI M_X4_together (d + 1) [.ref r0, .int i1, .int i2] h P := by
  refine ⟨⟨r0, rfl, ho⟩, x_enter (by decide) (Nat.le_of_ble_eq_true rfl) ?_⟩
  show X (KM (some .int) (fun r h' => ∃ x, r = some (.int x) ∧ P x h')) RX4 cX4_together 3 (d + 1) h 0 [(0, .ref r0), (1, .int i1), (2, .int i2)] []
  refine x_aload_n dX4_together_0 rfl 0 rfl ?_
  refine x_iload_n dX4_together_1 rfl 1 rfl ?_
  refine x_iload_n dX4_together_2 rfl 2 rfl ?_
  refine x_vI vl_X4_58 dX4_together_3 (As := [.int i1, .int i2]) rfl rfl (Nat.le_of_ble_eq_true rfl) (CI.mono H (fun x2 h1 H => ?_))
  refine x_if_ne (tgt := 12) dX4_together_6 (by decide) (fun c => ?_) (fun c => ?_)
  · replace H := H.1 c
    refine x_aload_n dX4_together_12 rfl 0 rfl ?_
    obtain ⟨q3, eq3, H⟩ := H
    refine x_getR fl_X4_10 dX4_together_13 eq3 ?_
    refine x_iload_n dX4_together_16 rfl 1 rfl ?_
    refine x_iload_n dX4_together_17 rfl 2 rfl ?_
    refine x_vI vl_X4_94 dX4_together_18 (As := [.int i1, .int i2]) rfl rfl (Nat.le_of_ble_eq_true rfl) (CI.mono H (fun x5 h4 H => ?_))
    exact x_iret dX4_together_21 ⟨_, rfl, H⟩
  · replace H := H.2 c
    refine x_bipush (v := (-2 : Int32)) dX4_together_9 (by decide) ?_
    exact x_iret dX4_together_11 ⟨_, rfl, H⟩
def L_X4_regular_25 (d : Nat) (P : Int32 → Hp → Prop) (h : Hp) (r0 : Nat) (i1 : Int32) (i2 : Int32) : Prop := X (KM (some .int) (fun r h' => ∃ x, r = some (.int x) ∧ P x h')) RX4 cX4_regular 4 (d + 1) h 25 [(0, .ref r0), (1, .int i1), (2, .int i2)] []
def L_X4_regular_38 (d : Nat) (P : Int32 → Hp → Prop) (h : Hp) (r0 : Nat) (i1 : Int32) (i2 : Int32) (i3 : Int32) : Prop := X (KM (some .int) (fun r h' => ∃ x, r = some (.int x) ∧ P x h')) RX4 cX4_regular 4 (d + 1) h 38 [(0, .ref r0), (1, .int i1), (2, .int i2), (3, .int i3)] []
set_option maxRecDepth 20000 in
theorem e_X4_regular {d : Nat} {P : Int32 → Hp → Prop} {h : Hp} {r0 : Nat} (ho : r0 < 47 ∧ ∃ fs, h r0 = .inr (4, fs)) (H : ∃ q1, gR h 4 r0 0 = some q1 ∧ ∃ x2, gI h 3 q1 1 = some x2 ∧ (((2 : Int32) ≤ x2 → ∃ q3, gR h 4 r0 0 = some q3 ∧ CI M_X3_oddTriplesWith d [.ref q3, .int (0 : Int32), .int (1 : Int32)] h (fun x5 h4 => L_X4_regular_25 d P h4 r0 x5 (1 : Int32))) ∧
  (¬ (2 : Int32) ≤ x2 → P (1 : Int32) h))) : CI M_X4_regular (d + 1) [.ref r0] h P := by
  refine ⟨⟨r0, rfl, ho⟩, x_enter (by decide) (Nat.le_of_ble_eq_true rfl) ?_⟩
  show X (KM (some .int) (fun r h' => ∃ x, r = some (.int x) ∧ P x h')) RX4 cX4_regular 4 (d + 1) h 0 [(0, .ref r0)] []
  refine x_aload_n dX4_regular_0 rfl 0 rfl ?_
  obtain ⟨q1, eq1, H⟩ := H
  refine x_getR fl_X4_10 dX4_regular_1 eq1 ?_
  obtain ⟨x2, ex2, H⟩ := H
  refine x_getI fl_X4_51 dX4_regular_4 ex2 ?_
  refine x_iconst (v := (2 : Int32)) dX4_regular_7 (by decide) ?_
  refine x_icmp_ge (tgt := 13) dX4_regular_8 (by decide) (fun c => ?_) (fun c => ?_)
  · replace H := H.1 c
    refine x_aload_n dX4_regular_13 rfl 0 rfl ?_
    obtain ⟨q3, eq3, H⟩ := H
    refine x_getR fl_X4_10 dX4_regular_14 eq3 ?_
    refine x_iconst (v := (0 : Int32)) dX4_regular_17 (by decide) ?_
    refine x_iconst (v := (1 : Int32)) dX4_regular_18 (by decide) ?_
    refine x_vI vl_X4_94 dX4_regular_19 (As := [.int (0 : Int32), .int (1 : Int32)]) rfl rfl (Nat.le_of_ble_eq_true rfl) (CI.mono H (fun x5 h4 H => ?_))
    refine x_istore_n dX4_regular_22 rfl (by decide) (lv' := [(1, .int x5), (0, .ref r0)]) rfl ?_
    refine x_iconst (v := (1 : Int32)) dX4_regular_23 (by decide) ?_
    refine x_istore_n dX4_regular_24 rfl (by decide) (lv' := [(2, .int (1 : Int32)), (1, .int x5), (0, .ref r0)]) rfl ?_
    refine x_perm [2, 1, 0] rfl ?_
    exact H
  · replace H := H.2 c
    refine x_iconst (v := (1 : Int32)) dX4_regular_11 (by decide) ?_
    exact x_iret dX4_regular_12 ⟨_, rfl, H⟩
set_option maxRecDepth 20000 in
theorem r_X4_regular_25 {d : Nat} {P : Int32 → Hp → Prop} {h : Hp} {r0 : Nat} {i1 : Int32} {i2 : Int32} (H : ∃ q1, gR h 4 r0 0 = some q1 ∧ ∃ x2, gI h 3 q1 1 = some x2 ∧ ((x2 ≤ i2 → P (1 : Int32) h) ∧
  (¬ x2 ≤ i2 → L_X4_regular_38 d P h r0 i1 i2 (0 : Int32)))) : L_X4_regular_25 d P h r0 i1 i2 := by
  show X (KM (some .int) (fun r h' => ∃ x, r = some (.int x) ∧ P x h')) RX4 cX4_regular 4 (d + 1) h 25 [(0, .ref r0), (1, .int i1), (2, .int i2)] []
  refine x_iload_n dX4_regular_25 rfl 2 rfl ?_
  refine x_aload_n dX4_regular_26 rfl 0 rfl ?_
  obtain ⟨q1, eq1, H⟩ := H
  refine x_getR fl_X4_10 dX4_regular_27 eq1 ?_
  obtain ⟨x2, ex2, H⟩ := H
  refine x_getI fl_X4_51 dX4_regular_30 ex2 ?_
  refine x_icmp_ge (tgt := 70) dX4_regular_33 (by decide) (fun c => ?_) (fun c => ?_)
  · replace H := H.1 c
    refine x_iconst (v := (1 : Int32)) dX4_regular_70 (by decide) ?_
    exact x_iret dX4_regular_71 ⟨_, rfl, H⟩
  · replace H := H.2 c
    refine x_iconst (v := (0 : Int32)) dX4_regular_36 (by decide) ?_
    refine x_istore_n dX4_regular_37 rfl (by decide) (lv' := [(3, .int (0 : Int32)), (0, .ref r0), (1, .int i1), (2, .int i2)]) rfl ?_
    refine x_perm [1, 2, 3, 0] rfl ?_
    exact H
set_option maxRecDepth 20000 in
theorem r_X4_regular_38 {d : Nat} {P : Int32 → Hp → Prop} {h : Hp} {r0 : Nat} {i1 : Int32} {i2 : Int32} {i3 : Int32} (H : ((i2 ≤ i3 → L_X4_regular_25 d P h r0 i1 (i2 + (1 : Int32))) ∧
  (¬ i2 ≤ i3 → ∃ q1, gR h 4 r0 0 = some q1 ∧ CI M_X3_oddTriplesWith d [.ref q1, .int i3, .int i2] h (fun x3 h2 => ((x3 = i1 → L_X4_regular_38 d P h2 r0 i1 i2 (i3 + (1 : Int32))) ∧
    (¬ x3 = i1 → P (0 : Int32) h2)))))) : L_X4_regular_38 d P h r0 i1 i2 i3 := by
  show X (KM (some .int) (fun r h' => ∃ x, r = some (.int x) ∧ P x h')) RX4 cX4_regular 4 (d + 1) h 38 [(0, .ref r0), (1, .int i1), (2, .int i2), (3, .int i3)] []
  refine x_iload_n dX4_regular_38 rfl 3 rfl ?_
  refine x_iload_n dX4_regular_39 rfl 2 rfl ?_
  refine x_icmp_ge (tgt := 64) dX4_regular_40 (by decide) (fun c => ?_) (fun c => ?_)
  · replace H := H.1 c
    refine x_iinc (q := 2) (v := (i2 + (1 : Int32))) dX4_regular_64 rfl rfl (by decide) (lv' := [(2, .int (i2 + (1 : Int32))), (0, .ref r0), (1, .int i1), (3, .int i3)]) rfl ?_
    refine x_goto (tgt := 25) dX4_regular_67 (by decide) ?_
    refine x_perm [1, 2, 0] rfl ?_
    exact H
  · replace H := H.2 c
    refine x_aload_n dX4_regular_43 rfl 0 rfl ?_
    obtain ⟨q1, eq1, H⟩ := H
    refine x_getR fl_X4_10 dX4_regular_44 eq1 ?_
    refine x_iload_n dX4_regular_47 rfl 3 rfl ?_
    refine x_iload_n dX4_regular_48 rfl 2 rfl ?_
    refine x_vI vl_X4_94 dX4_regular_49 (As := [.int i3, .int i2]) rfl rfl (Nat.le_of_ble_eq_true rfl) (CI.mono H (fun x3 h2 H => ?_))
    refine x_iload_n dX4_regular_52 rfl 1 rfl ?_
    refine x_icmp_eq (tgt := 58) dX4_regular_53 (by decide) (fun c => ?_) (fun c => ?_)
    · replace H := H.1 c
      refine x_iinc (q := 3) (v := (i3 + (1 : Int32))) dX4_regular_58 rfl rfl (by decide) (lv' := [(3, .int (i3 + (1 : Int32))), (0, .ref r0), (1, .int i1), (2, .int i2)]) rfl ?_
      refine x_goto (tgt := 38) dX4_regular_61 (by decide) ?_
      refine x_perm [1, 2, 3, 0] rfl ?_
      exact H
    · replace H := H.2 c
      refine x_iconst (v := (0 : Int32)) dX4_regular_56 (by decide) ?_
      exact x_iret dX4_regular_57 ⟨_, rfl, H⟩
set_option maxRecDepth 20000 in
theorem e_X4_areTwoLines {d : Nat} {P : Int32 → Hp → Prop} {h : Hp} {r0 : Nat} {i1 : Int32} {i2 : Int32} (ho : r0 < 47 ∧ ∃ fs, h r0 = .inr (4, fs)) (H : ∃ q1, gR h 4 r0 0 = some q1 ∧ CI M_X3_hasLine d [.ref q1, .int i1] h (fun x3 h2 => ((x3 = 0 → P (0 : Int32) h2) ∧
  (¬ x3 = 0 → ∃ q4, gR h2 4 r0 0 = some q4 ∧ CI M_X3_hasLine d [.ref q4, .int i2] h2 (fun x6 h5 => ((x6 = 0 → P (0 : Int32) h5) ∧
    (¬ x6 = 0 → ((i1 = i2 → P (0 : Int32) h5) ∧
      (¬ i1 = i2 → P (1 : Int32) h5))))))))) : CI M_X4_areTwoLines (d + 1) [.ref r0, .int i1, .int i2] h P := by
  refine ⟨⟨r0, rfl, ho⟩, x_enter (by decide) (Nat.le_of_ble_eq_true rfl) ?_⟩
  show X (KM (some .boolean) (fun r h' => ∃ x, r = some (.int x) ∧ P x h')) RX4 cX4_areTwoLines 3 (d + 1) h 0 [(0, .ref r0), (1, .int i1), (2, .int i2)] []
  refine x_aload_n dX4_areTwoLines_0 rfl 0 rfl ?_
  obtain ⟨q1, eq1, H⟩ := H
  refine x_getR fl_X4_10 dX4_areTwoLines_1 eq1 ?_
  refine x_iload_n dX4_areTwoLines_4 rfl 1 rfl ?_
  refine x_vI vl_X4_70 dX4_areTwoLines_5 (As := [.int i1]) rfl rfl (Nat.le_of_ble_eq_true rfl) (CI.mono H (fun x3 h2 H => ?_))
  refine x_if_eq (tgt := 31) dX4_areTwoLines_8 (by decide) (fun c => ?_) (fun c => ?_)
  · replace H := H.1 c
    refine x_iconst (v := (0 : Int32)) dX4_areTwoLines_31 (by decide) ?_
    exact x_zret dX4_areTwoLines_32 (by decide) ⟨_, rfl, H⟩
  · replace H := H.2 c
    refine x_aload_n dX4_areTwoLines_11 rfl 0 rfl ?_
    obtain ⟨q4, eq4, H⟩ := H
    refine x_getR fl_X4_10 dX4_areTwoLines_12 eq4 ?_
    refine x_iload_n dX4_areTwoLines_15 rfl 2 rfl ?_
    refine x_vI vl_X4_70 dX4_areTwoLines_16 (As := [.int i2]) rfl rfl (Nat.le_of_ble_eq_true rfl) (CI.mono H (fun x6 h5 H => ?_))
    refine x_if_eq (tgt := 31) dX4_areTwoLines_19 (by decide) (fun c => ?_) (fun c => ?_)
    · replace H := H.1 c
      refine x_iconst (v := (0 : Int32)) dX4_areTwoLines_31 (by decide) ?_
      exact x_zret dX4_areTwoLines_32 (by decide) ⟨_, rfl, H⟩
    · replace H := H.2 c
      refine x_iload_n dX4_areTwoLines_22 rfl 1 rfl ?_
      refine x_iload_n dX4_areTwoLines_23 rfl 2 rfl ?_
      refine x_icmp_eq (tgt := 31) dX4_areTwoLines_24 (by decide) (fun c => ?_) (fun c => ?_)
      · replace H := H.1 c
        refine x_iconst (v := (0 : Int32)) dX4_areTwoLines_31 (by decide) ?_
        exact x_zret dX4_areTwoLines_32 (by decide) ⟨_, rfl, H⟩
      · replace H := H.2 c
        refine x_iconst (v := (1 : Int32)) dX4_areTwoLines_27 (by decide) ?_
        refine x_goto (tgt := 32) dX4_areTwoLines_28 (by decide) ?_
        exact x_zret dX4_areTwoLines_32 (by decide) ⟨_, rfl, H⟩
set_option maxRecDepth 20000 in
theorem e_X4_isLineCount {d : Nat} {P : Int32 → Hp → Prop} {h : Hp} {i0 : Int32} (H : ((i0 < 0 → P (0 : Int32) h) ∧
  (¬ i0 < 0 → (((10 : Int32) < i0 → P (0 : Int32) h) ∧
    (¬ (10 : Int32) < i0 → P (1 : Int32) h))))) : CI M_X4_isLineCount (d + 1) [.int i0] h P := by
  refine ⟨trivial, x_enter (by decide) (Nat.le_of_ble_eq_true rfl) ?_⟩
  show X (KM (some .boolean) (fun r h' => ∃ x, r = some (.int x) ∧ P x h')) RX4 cX4_isLineCount 1 (d + 1) h 0 [(0, .int i0)] []
  refine x_iload_n dX4_isLineCount_0 rfl 0 rfl ?_
  refine x_if_lt (tgt := 14) dX4_isLineCount_1 (by decide) (fun c => ?_) (fun c => ?_)
  · replace H := H.1 c
    refine x_iconst (v := (0 : Int32)) dX4_isLineCount_14 (by decide) ?_
    exact x_zret dX4_isLineCount_15 (by decide) ⟨_, rfl, H⟩
  · replace H := H.2 c
    refine x_iload_n dX4_isLineCount_4 rfl 0 rfl ?_
    refine x_bipush (v := (10 : Int32)) dX4_isLineCount_5 (by decide) ?_
    refine x_icmp_gt (tgt := 14) dX4_isLineCount_7 (by decide) (fun c => ?_) (fun c => ?_)
    · replace H := H.1 c
      refine x_iconst (v := (0 : Int32)) dX4_isLineCount_14 (by decide) ?_
      exact x_zret dX4_isLineCount_15 (by decide) ⟨_, rfl, H⟩
    · replace H := H.2 c
      refine x_iconst (v := (1 : Int32)) dX4_isLineCount_10 (by decide) ?_
      refine x_goto (tgt := 15) dX4_isLineCount_11 (by decide) ?_
      exact x_zret dX4_isLineCount_15 (by decide) ⟨_, rfl, H⟩
set_option maxRecDepth 20000 in
theorem e_X4_angle {d : Nat} {P : Int32 → Hp → Prop} {h : Hp} {r0 : Nat} {i1 : Int32} (ho : r0 < 47 ∧ ∃ fs, h r0 = .inr (4, fs)) (H : ((i1 < (3 : Int32) → P (-2 : Int32) h) ∧
  (¬ i1 < (3 : Int32) → (((9 : Int32) < i1 → P (-2 : Int32) h) ∧
    (¬ (9 : Int32) < i1 → ((¬ (irem i1 (2 : Int32)) = 0 → ∃ x1, gI h 4 r0 5 = some x1 ∧ ∃ h2, sF h 4 r0 5 (.int i1) = some h2 ∧ P x1 h2) ∧
      ((irem i1 (2 : Int32)) = 0 → P (-2 : Int32) h))))))) : CI M_X4_angle (d + 1) [.ref r0, .int i1] h P := by
  refine ⟨⟨r0, rfl, ho⟩, x_enter (by decide) (Nat.le_of_ble_eq_true rfl) ?_⟩
  show X (KM (some .int) (fun r h' => ∃ x, r = some (.int x) ∧ P x h')) RX4 cX4_angle 3 (d + 1) h 0 [(0, .ref r0), (1, .int i1)] []
  refine x_iload_n dX4_angle_0 rfl 1 rfl ?_
  refine x_iconst (v := (3 : Int32)) dX4_angle_1 (by decide) ?_
  refine x_icmp_lt (tgt := 17) dX4_angle_2 (by decide) (fun c => ?_) (fun c => ?_)
  · replace H := H.1 c
    refine x_bipush (v := (-2 : Int32)) dX4_angle_17 (by decide) ?_
    exact x_iret dX4_angle_19 ⟨_, rfl, H⟩
  · replace H := H.2 c
    refine x_iload_n dX4_angle_5 rfl 1 rfl ?_
    refine x_bipush (v := (9 : Int32)) dX4_angle_6 (by decide) ?_
    refine x_icmp_gt (tgt := 17) dX4_angle_8 (by decide) (fun c => ?_) (fun c => ?_)
    · replace H := H.1 c
      refine x_bipush (v := (-2 : Int32)) dX4_angle_17 (by decide) ?_
      exact x_iret dX4_angle_19 ⟨_, rfl, H⟩
    · replace H := H.2 c
      refine x_iload_n dX4_angle_11 rfl 1 rfl ?_
      refine x_iconst (v := (2 : Int32)) dX4_angle_12 (by decide) ?_
      refine x_irem dX4_angle_13 (by decide) ?_
      refine x_if_ne (tgt := 20) dX4_angle_14 (by decide) (fun c => ?_) (fun c => ?_)
      · replace H := H.1 c
        refine x_aload_n dX4_angle_20 rfl 0 rfl ?_
        obtain ⟨x1, ex1, H⟩ := H
        refine x_getI fl_X4_39 dX4_angle_21 ex1 ?_
        refine x_istore_n dX4_angle_24 rfl (by decide) (lv' := [(2, .int x1), (0, .ref r0), (1, .int i1)]) rfl ?_
        refine x_aload_n dX4_angle_25 rfl 1 rfl ?_
        refine x_iload_n dX4_angle_26 rfl 2 rfl ?_
        obtain ⟨h2, eh2, H⟩ := H
        refine x_putI fp_X4_39 rfl rfl dX4_angle_27 eh2 ?_
        refine x_iload_n dX4_angle_30 rfl 0 rfl ?_
        exact x_iret dX4_angle_31 ⟨_, rfl, H⟩
      · replace H := H.2 c
        refine x_bipush (v := (-2 : Int32)) dX4_angle_17 (by decide) ?_
        exact x_iret dX4_angle_19 ⟨_, rfl, H⟩
set_option maxRecDepth 20000 in
theorem e_X4_sums {d : Nat} {P : Int64 → Hp → Prop} {h : Hp} {r0 : Nat} {i1 : Int32} {i2 : Int32} (ho : r0 < 47 ∧ ∃ fs, h r0 = .inr (4, fs)) (H : ((i1 < 0 → P (-9223372036854775806 : Int64) h) ∧
  (¬ i1 < 0 → (((1 : Int32) < i1 → P (-9223372036854775806 : Int64) h) ∧
    (¬ (1 : Int32) < i1 → ((i2 < 0 → P (-9223372036854775806 : Int64) h) ∧
      (¬ i2 < 0 → ∃ q1, gR h 4 r0 0 = some q1 ∧ ∃ x2, gI h 3 q1 1 = some x2 ∧ ((i2 ≤ x2 → ∃ q3, gR h 4 r0 2 = some q3 ∧ ∃ q4, gR h 4 r0 0 = some q4 ∧ ((¬ i1 = 0 → ∃ x5, gI h 4 r0 5 = some x5 ∧ CV M_X2_take d [.ref q3, .ref q4, .int x5] h (fun h6 => ∃ q7, gR h6 4 r0 2 = some q7 ∧ ∃ q8, gR h6 2 q7 0 = some q8 ∧ ∃ x9, lJ h6 q8 i2 = some x9 ∧ P x9 h6)) ∧
          (i1 = 0 → CV M_X2_take d [.ref q3, .ref q4, .int (0 : Int32)] h (fun h10 => ∃ q11, gR h10 4 r0 2 = some q11 ∧ ∃ q12, gR h10 2 q11 0 = some q12 ∧ ∃ x13, lJ h10 q12 i2 = some x13 ∧ P x13 h10)))) ∧
        (¬ i2 ≤ x2 → P (-9223372036854775806 : Int64) h))))))))) : CJ M_X4_sums (d + 1) [.ref r0, .int i1, .int i2] h P := by
  refine ⟨⟨r0, rfl, ho⟩, x_enter (by decide) (Nat.le_of_ble_eq_true rfl) ?_⟩
  show X (KM (some .long) (fun r h' => ∃ x, r = some (.long x) ∧ P x h')) RX4 cX4_sums 3 (d + 1) h 0 [(0, .ref r0), (1, .int i1), (2, .int i2)] []
  refine x_iload_n dX4_sums_0 rfl 1 rfl ?_
  refine x_if_lt (tgt := 24) dX4_sums_1 (by decide) (fun c => ?_) (fun c => ?_)
  · replace H := H.1 c
    refine x_ldc2 (v := (-9223372036854775806 : Int64)) (lw_gm (i := 253) (by decide +kernel) rfl) dX4_sums_24 ?_
    exact x_lret dX4_sums_27 ⟨_, rfl, H⟩
  · replace H := H.2 c
    refine x_iload_n dX4_sums_4 rfl 1 rfl ?_
    refine x_iconst (v := (1 : Int32)) dX4_sums_5 (by decide) ?_
    refine x_icmp_gt (tgt := 24) dX4_sums_6 (by decide) (fun c => ?_) (fun c => ?_)
    · replace H := H.1 c
      refine x_ldc2 (v := (-9223372036854775806 : Int64)) (lw_gm (i := 253) (by decide +kernel) rfl) dX4_sums_24 ?_
      exact x_lret dX4_sums_27 ⟨_, rfl, H⟩
    · replace H := H.2 c
      refine x_iload_n dX4_sums_9 rfl 2 rfl ?_
      refine x_if_lt (tgt := 24) dX4_sums_10 (by decide) (fun c => ?_) (fun c => ?_)
      · replace H := H.1 c
        refine x_ldc2 (v := (-9223372036854775806 : Int64)) (lw_gm (i := 253) (by decide +kernel) rfl) dX4_sums_24 ?_
        exact x_lret dX4_sums_27 ⟨_, rfl, H⟩
      · replace H := H.2 c
        refine x_iload_n dX4_sums_13 rfl 2 rfl ?_
        refine x_aload_n dX4_sums_14 rfl 0 rfl ?_
        obtain ⟨q1, eq1, H⟩ := H
        refine x_getR fl_X4_10 dX4_sums_15 eq1 ?_
        obtain ⟨x2, ex2, H⟩ := H
        refine x_getI fl_X4_51 dX4_sums_18 ex2 ?_
        refine x_icmp_le (tgt := 28) dX4_sums_21 (by decide) (fun c => ?_) (fun c => ?_)
        · replace H := H.1 c
          refine x_aload_n dX4_sums_28 rfl 0 rfl ?_
          obtain ⟨q3, eq3, H⟩ := H
          refine x_getR fl_X4_22 dX4_sums_29 eq3 ?_
          refine x_aload_n dX4_sums_32 rfl 0 rfl ?_
          obtain ⟨q4, eq4, H⟩ := H
          refine x_getR fl_X4_10 dX4_sums_33 eq4 ?_
          refine x_iload_n dX4_sums_36 rfl 1 rfl ?_
          refine x_if_ne (tgt := 44) dX4_sums_37 (by decide) (fun c => ?_) (fun c => ?_)
          · replace H := H.1 c
            refine x_aload_n dX4_sums_44 rfl 0 rfl ?_
            obtain ⟨x5, ex5, H⟩ := H
            refine x_getI fl_X4_39 dX4_sums_45 ex5 ?_
            refine x_vV vl_X4_99 dX4_sums_48 (As := [.ref q4, .int x5]) rfl rfl (Nat.le_of_ble_eq_true rfl) (CV.mono H (fun h6 H => ?_))
            refine x_aload_n dX4_sums_51 rfl 0 rfl ?_
            obtain ⟨q7, eq7, H⟩ := H
            refine x_getR fl_X4_22 dX4_sums_52 eq7 ?_
            obtain ⟨q8, eq8, H⟩ := H
            refine x_getR fl_X4_103 dX4_sums_55 eq8 ?_
            refine x_iload_n dX4_sums_58 rfl 2 rfl ?_
            obtain ⟨x9, ex9, H⟩ := H
            refine x_laload dX4_sums_59 ex9 ?_
            exact x_lret dX4_sums_60 ⟨_, rfl, H⟩
          · replace H := H.2 c
            refine x_iconst (v := (0 : Int32)) dX4_sums_40 (by decide) ?_
            refine x_goto (tgt := 48) dX4_sums_41 (by decide) ?_
            refine x_vV vl_X4_99 dX4_sums_48 (As := [.ref q4, .int (0 : Int32)]) rfl rfl (Nat.le_of_ble_eq_true rfl) (CV.mono H (fun h10 H => ?_))
            refine x_aload_n dX4_sums_51 rfl 0 rfl ?_
            obtain ⟨q11, eq11, H⟩ := H
            refine x_getR fl_X4_22 dX4_sums_52 eq11 ?_
            obtain ⟨q12, eq12, H⟩ := H
            refine x_getR fl_X4_103 dX4_sums_55 eq12 ?_
            refine x_iload_n dX4_sums_58 rfl 2 rfl ?_
            obtain ⟨x13, ex13, H⟩ := H
            refine x_laload dX4_sums_59 ex13 ?_
            exact x_lret dX4_sums_60 ⟨_, rfl, H⟩
        · replace H := H.2 c
          refine x_ldc2 (v := (-9223372036854775806 : Int64)) (lw_gm (i := 253) (by decide +kernel) rfl) dX4_sums_24 ?_
          exact x_lret dX4_sums_27 ⟨_, rfl, H⟩
set_option maxRecDepth 20000 in
theorem e_X4_own {d : Nat} {P : Int32 → Hp → Prop} {h : Hp} {r0 : Nat} {i1 : Int32} (ho : r0 < 47 ∧ ∃ fs, h r0 = .inr (4, fs)) (H : ((i1 < (-20 : Int32) → P (-2 : Int32) h) ∧
  (¬ i1 < (-20 : Int32) → ((i1 ≤ (20 : Int32) → ∃ q1, gR h 4 r0 2 = some q1 ∧ ∃ q2, gR h 4 r0 0 = some q2 ∧ CV M_X2_take d [.ref q1, .ref q2, .int (0 : Int32)] h (fun h3 => ∃ q4, gR h3 4 r0 2 = some q4 ∧ CI M_X2_timesOwn d [.ref q4, .int i1] h3 (fun x6 h5 => P x6 h5))) ∧
    (¬ i1 ≤ (20 : Int32) → P (-2 : Int32) h))))) : CI M_X4_own (d + 1) [.ref r0, .int i1] h P := by
  refine ⟨⟨r0, rfl, ho⟩, x_enter (by decide) (Nat.le_of_ble_eq_true rfl) ?_⟩
  show X (KM (some .int) (fun r h' => ∃ x, r = some (.int x) ∧ P x h')) RX4 cX4_own 2 (d + 1) h 0 [(0, .ref r0), (1, .int i1)] []
  refine x_iload_n dX4_own_0 rfl 1 rfl ?_
  refine x_bipush (v := (-20 : Int32)) dX4_own_1 (by decide) ?_
  refine x_icmp_lt (tgt := 12) dX4_own_3 (by decide) (fun c => ?_) (fun c => ?_)
  · replace H := H.1 c
    refine x_bipush (v := (-2 : Int32)) dX4_own_12 (by decide) ?_
    exact x_iret dX4_own_14 ⟨_, rfl, H⟩
  · replace H := H.2 c
    refine x_iload_n dX4_own_6 rfl 1 rfl ?_
    refine x_bipush (v := (20 : Int32)) dX4_own_7 (by decide) ?_
    refine x_icmp_le (tgt := 15) dX4_own_9 (by decide) (fun c => ?_) (fun c => ?_)
    · replace H := H.1 c
      refine x_aload_n dX4_own_15 rfl 0 rfl ?_
      obtain ⟨q1, eq1, H⟩ := H
      refine x_getR fl_X4_22 dX4_own_16 eq1 ?_
      refine x_aload_n dX4_own_19 rfl 0 rfl ?_
      obtain ⟨q2, eq2, H⟩ := H
      refine x_getR fl_X4_10 dX4_own_20 eq2 ?_
      refine x_iconst (v := (0 : Int32)) dX4_own_23 (by decide) ?_
      refine x_vV vl_X4_99 dX4_own_24 (As := [.ref q2, .int (0 : Int32)]) rfl rfl (Nat.le_of_ble_eq_true rfl) (CV.mono H (fun h3 H => ?_))
      refine x_aload_n dX4_own_27 rfl 0 rfl ?_
      obtain ⟨q4, eq4, H⟩ := H
      refine x_getR fl_X4_22 dX4_own_28 eq4 ?_
      refine x_iload_n dX4_own_31 rfl 1 rfl ?_
      refine x_vI vl_X4_107 dX4_own_32 (As := [.int i1]) rfl rfl (Nat.le_of_ble_eq_true rfl) (CI.mono H (fun x6 h5 H => ?_))
      exact x_iret dX4_own_35 ⟨_, rfl, H⟩
    · replace H := H.2 c
      refine x_bipush (v := (-2 : Int32)) dX4_own_12 (by decide) ?_
      exact x_iret dX4_own_14 ⟨_, rfl, H⟩
set_option maxRecDepth 20000 in
theorem e_X4_lies {d : Nat} {P : Int32 → Hp → Prop} {h : Hp} {r0 : Nat} (ho : r0 < 47 ∧ ∃ fs, h r0 = .inr (4, fs)) (H : ∃ q1, gR h 4 r0 2 = some q1 ∧ ∃ q2, gR h 4 r0 0 = some q2 ∧ ∃ x3, gI h 4 r0 5 = some x3 ∧ CV M_X2_take d [.ref q1, .ref q2, .int x3] h (fun h4 => ∃ q5, gR h4 4 r0 2 = some q5 ∧ CI M_X2_noneBelowZero d [.ref q5] h4 (fun x7 h6 => ((x7 = 0 → P (0 : Int32) h6) ∧
  (¬ x7 = 0 → P (1 : Int32) h6))))) : CI M_X4_lies (d + 1) [.ref r0] h P := by
  refine ⟨⟨r0, rfl, ho⟩, x_enter (by decide) (Nat.le_of_ble_eq_true rfl) ?_⟩
  show X (KM (some .int) (fun r h' => ∃ x, r = some (.int x) ∧ P x h')) RX4 cX4_lies 1 (d + 1) h 0 [(0, .ref r0)] []
  refine x_aload_n dX4_lies_0 rfl 0 rfl ?_
  obtain ⟨q1, eq1, H⟩ := H
  refine x_getR fl_X4_22 dX4_lies_1 eq1 ?_
  refine x_aload_n dX4_lies_4 rfl 0 rfl ?_
  obtain ⟨q2, eq2, H⟩ := H
  refine x_getR fl_X4_10 dX4_lies_5 eq2 ?_
  refine x_aload_n dX4_lies_8 rfl 0 rfl ?_
  obtain ⟨x3, ex3, H⟩ := H
  refine x_getI fl_X4_39 dX4_lies_9 ex3 ?_
  refine x_vV vl_X4_99 dX4_lies_12 (As := [.ref q2, .int x3]) rfl rfl (Nat.le_of_ble_eq_true rfl) (CV.mono H (fun h4 H => ?_))
  refine x_aload_n dX4_lies_15 rfl 0 rfl ?_
  obtain ⟨q5, eq5, H⟩ := H
  refine x_getR fl_X4_22 dX4_lies_16 eq5 ?_
  refine x_vI vl_X4_110 dX4_lies_19 (As := []) rfl rfl (Nat.le_of_ble_eq_true rfl) (CI.mono H (fun x7 h6 H => ?_))
  refine x_if_eq (tgt := 29) dX4_lies_22 (by decide) (fun c => ?_) (fun c => ?_)
  · replace H := H.1 c
    refine x_iconst (v := (0 : Int32)) dX4_lies_29 (by decide) ?_
    exact x_iret dX4_lies_30 ⟨_, rfl, H⟩
  · replace H := H.2 c
    refine x_iconst (v := (1 : Int32)) dX4_lies_25 (by decide) ?_
    refine x_goto (tgt := 30) dX4_lies_26 (by decide) ?_
    exact x_iret dX4_lies_30 ⟨_, rfl, H⟩
set_option maxRecDepth 20000 in
theorem e_X4_rank {d : Nat} {P : Int32 → Hp → Prop} {h : Hp} {r0 : Nat} (ho : r0 < 47 ∧ ∃ fs, h r0 = .inr (4, fs)) (H : ∃ q1, gR h 4 r0 2 = some q1 ∧ ∃ q2, gR h 4 r0 0 = some q2 ∧ ∃ x3, gI h 4 r0 5 = some x3 ∧ CV M_X2_take d [.ref q1, .ref q2, .int x3] h (fun h4 => ∃ q5, gR h4 4 r0 2 = some q5 ∧ CI M_X2_dimensions d [.ref q5] h4 (fun x7 h6 => P x7 h6))) : CI M_X4_rank (d + 1) [.ref r0] h P := by
  refine ⟨⟨r0, rfl, ho⟩, x_enter (by decide) (Nat.le_of_ble_eq_true rfl) ?_⟩
  show X (KM (some .int) (fun r h' => ∃ x, r = some (.int x) ∧ P x h')) RX4 cX4_rank 1 (d + 1) h 0 [(0, .ref r0)] []
  refine x_aload_n dX4_rank_0 rfl 0 rfl ?_
  obtain ⟨q1, eq1, H⟩ := H
  refine x_getR fl_X4_22 dX4_rank_1 eq1 ?_
  refine x_aload_n dX4_rank_4 rfl 0 rfl ?_
  obtain ⟨q2, eq2, H⟩ := H
  refine x_getR fl_X4_10 dX4_rank_5 eq2 ?_
  refine x_aload_n dX4_rank_8 rfl 0 rfl ?_
  obtain ⟨x3, ex3, H⟩ := H
  refine x_getI fl_X4_39 dX4_rank_9 ex3 ?_
  refine x_vV vl_X4_99 dX4_rank_12 (As := [.ref q2, .int x3]) rfl rfl (Nat.le_of_ble_eq_true rfl) (CV.mono H (fun h4 H => ?_))
  refine x_aload_n dX4_rank_15 rfl 0 rfl ?_
  obtain ⟨q5, eq5, H⟩ := H
  refine x_getR fl_X4_22 dX4_rank_16 eq5 ?_
  refine x_vI vl_X4_114 dX4_rank_19 (As := []) rfl rfl (Nat.le_of_ble_eq_true rfl) (CI.mono H (fun x7 h6 H => ?_))
  exact x_iret dX4_rank_22 ⟨_, rfl, H⟩
set_option maxRecDepth 20000 in
theorem e_X4_bound {d : Nat} {P : Int32 → Hp → Prop} {h : Hp} {r0 : Nat} {i1 : Int32} (ho : r0 < 47 ∧ ∃ fs, h r0 = .inr (4, fs)) (H : CI M_X4_isDimension d [.int i1] h (fun x2 h1 => ((¬ x2 = 0 → ∃ x3, gI h1 4 r0 5 = some x3 ∧ ∃ x4, gI h1 4 r0 5 = some x4 ∧ ((i1 < (x3 * x4) → ¬ ((x3 * x4) - i1) = 0 ∧ (P (if ((i1 * ((x3 * x4) - (1 : Int32))) / ((x3 * x4) - i1)) < ((i1 * (i1 + (1 : Int32))) / (2 : Int32)) then ((i1 * ((x3 * x4) - (1 : Int32))) / ((x3 * x4) - i1)) else ((i1 * (i1 + (1 : Int32))) / (2 : Int32))) h1)) ∧
    (¬ i1 < (x3 * x4) → P ((i1 * (i1 + (1 : Int32))) / (2 : Int32)) h1))) ∧
  (x2 = 0 → P (-2 : Int32) h1)))) : CI M_X4_bound (d + 1) [.ref r0, .int i1] h P := by
  refine ⟨⟨r0, rfl, ho⟩, x_enter (by decide) (Nat.le_of_ble_eq_true rfl) ?_⟩
  show X (KM (some .int) (fun r h' => ∃ x, r = some (.int x) ∧ P x h')) RX4 cX4_bound 4 (d + 1) h 0 [(0, .ref r0), (1, .int i1)] []
  refine x_iload_n dX4_bound_0 rfl 1 rfl ?_
  refine x_sI sl_X4_117 dX4_bound_1 (As := [.int i1]) rfl rfl (Nat.le_of_ble_eq_true rfl) (CI.mono H (fun x2 h1 H => ?_))
  refine x_if_ne (tgt := 10) dX4_bound_4 (by decide) (fun c => ?_) (fun c => ?_)
  · replace H := H.1 c
    refine x_iload_n dX4_bound_10 rfl 1 rfl ?_
    refine x_iload_n dX4_bound_11 rfl 1 rfl ?_
    refine x_iconst (v := (1 : Int32)) dX4_bound_12 (by decide) ?_
    refine x_iadd dX4_bound_13 ?_
    refine x_imul dX4_bound_14 ?_
    refine x_iconst (v := (2 : Int32)) dX4_bound_15 (by decide) ?_
    refine x_idiv dX4_bound_16 (by decide) ?_
    refine x_istore_n dX4_bound_17 rfl (by decide) (lv' := [(2, .int ((i1 * (i1 + (1 : Int32))) / (2 : Int32))), (0, .ref r0), (1, .int i1)]) rfl ?_
    refine x_aload_n dX4_bound_18 rfl 1 rfl ?_
    obtain ⟨x3, ex3, H⟩ := H
    refine x_getI fl_X4_39 dX4_bound_19 ex3 ?_
    refine x_aload_n dX4_bound_22 rfl 1 rfl ?_
    obtain ⟨x4, ex4, H⟩ := H
    refine x_getI fl_X4_39 dX4_bound_23 ex4 ?_
    refine x_imul dX4_bound_26 ?_
    refine x_istore_n dX4_bound_27 rfl (by decide) (lv' := [(3, .int (x3 * x4)), (2, .int ((i1 * (i1 + (1 : Int32))) / (2 : Int32))), (0, .ref r0), (1, .int i1)]) rfl ?_
    refine x_iload_n dX4_bound_28 rfl 3 rfl ?_
    refine x_iload_n dX4_bound_29 rfl 0 rfl ?_
    refine x_icmp_lt (tgt := 35) dX4_bound_30 (by decide) (fun c => ?_) (fun c => ?_)
    · replace H := H.1 c
      refine x_iload_n dX4_bound_35 rfl 1 rfl ?_
      refine x_iload_n dX4_bound_36 rfl 3 rfl ?_
      refine x_iload_n dX4_bound_37 rfl 0 rfl ?_
      refine x_iconst (v := (1 : Int32)) dX4_bound_38 (by decide) ?_
      refine x_isub dX4_bound_39 ?_
      refine x_imul dX4_bound_40 ?_
      refine x_iload_n dX4_bound_41 rfl 0 rfl ?_
      refine x_iload_n dX4_bound_42 rfl 3 rfl ?_
      refine x_isub dX4_bound_43 ?_
      obtain ⟨hne, H⟩ := H
      refine x_idiv dX4_bound_44 hne ?_
      refine x_mmin (lw_gm (i := 309) (by decide +kernel) rfl) (lw_gm (i := 310) (by decide +kernel) rfl) (lw_gm (i := 40) (by decide +kernel) rfl) (lw_gm (i := 311) (by decide +kernel) rfl) dX4_bound_45 (Nat.le_of_ble_eq_true rfl) ?_
      exact x_iret dX4_bound_48 ⟨_, rfl, H⟩
    · replace H := H.2 c
      refine x_iload_n dX4_bound_33 rfl 1 rfl ?_
      exact x_iret dX4_bound_34 ⟨_, rfl, H⟩
  · replace H := H.2 c
    refine x_bipush (v := (-2 : Int32)) dX4_bound_7 (by decide) ?_
    exact x_iret dX4_bound_9 ⟨_, rfl, H⟩
set_option maxRecDepth 20000 in
theorem e_X4_isDimension {d : Nat} {P : Int32 → Hp → Prop} {h : Hp} {i0 : Int32} (H : ((i0 < (1 : Int32) → P (0 : Int32) h) ∧
  (¬ i0 < (1 : Int32) → (((20 : Int32) < i0 → P (0 : Int32) h) ∧
    (¬ (20 : Int32) < i0 → P (1 : Int32) h))))) : CI M_X4_isDimension (d + 1) [.int i0] h P := by
  refine ⟨trivial, x_enter (by decide) (Nat.le_of_ble_eq_true rfl) ?_⟩
  show X (KM (some .boolean) (fun r h' => ∃ x, r = some (.int x) ∧ P x h')) RX4 cX4_isDimension 1 (d + 1) h 0 [(0, .int i0)] []
  refine x_iload_n dX4_isDimension_0 rfl 0 rfl ?_
  refine x_iconst (v := (1 : Int32)) dX4_isDimension_1 (by decide) ?_
  refine x_icmp_lt (tgt := 15) dX4_isDimension_2 (by decide) (fun c => ?_) (fun c => ?_)
  · replace H := H.1 c
    refine x_iconst (v := (0 : Int32)) dX4_isDimension_15 (by decide) ?_
    exact x_zret dX4_isDimension_16 (by decide) ⟨_, rfl, H⟩
  · replace H := H.2 c
    refine x_iload_n dX4_isDimension_5 rfl 0 rfl ?_
    refine x_bipush (v := (20 : Int32)) dX4_isDimension_6 (by decide) ?_
    refine x_icmp_gt (tgt := 15) dX4_isDimension_8 (by decide) (fun c => ?_) (fun c => ?_)
    · replace H := H.1 c
      refine x_iconst (v := (0 : Int32)) dX4_isDimension_15 (by decide) ?_
      exact x_zret dX4_isDimension_16 (by decide) ⟨_, rfl, H⟩
    · replace H := H.2 c
      refine x_iconst (v := (1 : Int32)) dX4_isDimension_11 (by decide) ?_
      refine x_goto (tgt := 16) dX4_isDimension_12 (by decide) ?_
      exact x_zret dX4_isDimension_16 (by decide) ⟨_, rfl, H⟩
set_option maxRecDepth 20000 in
theorem e_X4_goes {d : Nat} {P : Int32 → Hp → Prop} {h : Hp} {r0 : Nat} {i1 : Int32} {i2 : Int32} (ho : r0 < 47 ∧ ∃ fs, h r0 = .inr (4, fs)) (H : ∃ q1, gR h 4 r0 0 = some q1 ∧ CI M_X3_isRow d [.ref q1, .int i1] h (fun x3 h2 => ((x3 = 0 → P (-2 : Int32) h2) ∧
  (¬ x3 = 0 → CI M_X4_isDimension d [.int i2] h2 (fun x5 h4 => ((¬ x5 = 0 → CI M_X4_refusalOfOneMore d [.ref r0] h4 (fun x7 h6 => ((x7 = 0 → ∃ q8, gR h6 4 r0 2 = some q8 ∧ ∃ q9, gR h6 4 r0 0 = some q9 ∧ ∃ x10, gI h6 4 r0 5 = some x10 ∧ CV M_X2_take d [.ref q8, .ref q9, .int x10] h6 (fun h11 => ∃ q12, gR h11 4 r0 2 = some q12 ∧ CI M_X2_letsIn d [.ref q12, .int i1, .int i2] h11 (fun x14 h13 => ((x14 = 0 → P (0 : Int32) h13) ∧
        (¬ x14 = 0 → P (1 : Int32) h13))))) ∧
      (¬ x7 = 0 → P x7 h6)))) ∧
    (x5 = 0 → P (-2 : Int32) h4))))))) : CI M_X4_goes (d + 1) [.ref r0, .int i1, .int i2] h P := by
  refine ⟨⟨r0, rfl, ho⟩, x_enter (by decide) (Nat.le_of_ble_eq_true rfl) ?_⟩
  show X (KM (some .int) (fun r h' => ∃ x, r = some (.int x) ∧ P x h')) RX4 cX4_goes 4 (d + 1) h 0 [(0, .ref r0), (1, .int i1), (2, .int i2)] []
  refine x_aload_n dX4_goes_0 rfl 0 rfl ?_
  obtain ⟨q1, eq1, H⟩ := H
  refine x_getR fl_X4_10 dX4_goes_1 eq1 ?_
  refine x_iload_n dX4_goes_4 rfl 1 rfl ?_
  refine x_vI vl_X4_125 dX4_goes_5 (As := [.int i1]) rfl rfl (Nat.le_of_ble_eq_true rfl) (CI.mono H (fun x3 h2 H => ?_))
  refine x_if_eq (tgt := 18) dX4_goes_8 (by decide) (fun c => ?_) (fun c => ?_)
  · replace H := H.1 c
    refine x_bipush (v := (-2 : Int32)) dX4_goes_18 (by decide) ?_
    exact x_iret dX4_goes_20 ⟨_, rfl, H⟩
  · replace H := H.2 c
    refine x_iload_n dX4_goes_11 rfl 2 rfl ?_
    refine x_sI sl_X4_117 dX4_goes_12 (As := [.int i2]) rfl rfl (Nat.le_of_ble_eq_true rfl) (CI.mono H (fun x5 h4 H => ?_))
    refine x_if_ne (tgt := 21) dX4_goes_15 (by decide) (fun c => ?_) (fun c => ?_)
    · replace H := H.1 c
      refine x_aload_n dX4_goes_21 rfl 0 rfl ?_
      refine x_vI vl_X4_128 dX4_goes_22 (As := []) rfl rfl (Nat.le_of_ble_eq_true rfl) (CI.mono H (fun x7 h6 H => ?_))
      refine x_istore_n dX4_goes_25 rfl (by decide) (lv' := [(3, .int x7), (0, .ref r0), (1, .int i1), (2, .int i2)]) rfl ?_
      refine x_iload_n dX4_goes_26 rfl 0 rfl ?_
      refine x_if_eq (tgt := 32) dX4_goes_27 (by decide) (fun c => ?_) (fun c => ?_)
      · replace H := H.1 c
        refine x_aload_n dX4_goes_32 rfl 1 rfl ?_
        obtain ⟨q8, eq8, H⟩ := H
        refine x_getR fl_X4_22 dX4_goes_33 eq8 ?_
        refine x_aload_n dX4_goes_36 rfl 1 rfl ?_
        obtain ⟨q9, eq9, H⟩ := H
        refine x_getR fl_X4_10 dX4_goes_37 eq9 ?_
        refine x_aload_n dX4_goes_40 rfl 1 rfl ?_
        obtain ⟨x10, ex10, H⟩ := H
        refine x_getI fl_X4_39 dX4_goes_41 ex10 ?_
        refine x_vV vl_X4_99 dX4_goes_44 (As := [.ref q9, .int x10]) rfl rfl (Nat.le_of_ble_eq_true rfl) (CV.mono H (fun h11 H => ?_))
        refine x_aload_n dX4_goes_47 rfl 1 rfl ?_
        obtain ⟨q12, eq12, H⟩ := H
        refine x_getR fl_X4_22 dX4_goes_48 eq12 ?_
        refine x_iload_n dX4_goes_51 rfl 2 rfl ?_
        refine x_iload_n dX4_goes_52 rfl 3 rfl ?_
        refine x_vI vl_X4_131 dX4_goes_53 (As := [.int i1, .int i2]) rfl rfl (Nat.le_of_ble_eq_true rfl) (CI.mono H (fun x14 h13 H => ?_))
        refine x_if_eq (tgt := 63) dX4_goes_56 (by decide) (fun c => ?_) (fun c => ?_)
        · replace H := H.1 c
          refine x_iconst (v := (0 : Int32)) dX4_goes_63 (by decide) ?_
          exact x_iret dX4_goes_64 ⟨_, rfl, H⟩
        · replace H := H.2 c
          refine x_iconst (v := (1 : Int32)) dX4_goes_59 (by decide) ?_
          refine x_goto (tgt := 64) dX4_goes_60 (by decide) ?_
          exact x_iret dX4_goes_64 ⟨_, rfl, H⟩
      · replace H := H.2 c
        refine x_iload_n dX4_goes_30 rfl 0 rfl ?_
        exact x_iret dX4_goes_31 ⟨_, rfl, H⟩
    · replace H := H.2 c
      refine x_bipush (v := (-2 : Int32)) dX4_goes_18 (by decide) ?_
      exact x_iret dX4_goes_20 ⟨_, rfl, H⟩
def L_X4_ways_41 (d : Nat) (P : Int32 → Hp → Prop) (h : Hp) (r0 : Nat) (i1 : Int32) (i3 : Int32) (i4 : Int32) : Prop := X (KM (some .int) (fun r h' => ∃ x, r = some (.int x) ∧ P x h')) RX4 cX4_ways 5 (d + 1) h 41 [(0, .ref r0), (1, .int i1), (3, .int i3), (4, .int i4)] []
set_option maxRecDepth 20000 in
theorem e_X4_ways {d : Nat} {P : Int32 → Hp → Prop} {h : Hp} {r0 : Nat} {i1 : Int32} (ho : r0 < 47 ∧ ∃ fs, h r0 = .inr (4, fs)) (H : CI M_X4_isDimension d [.int i1] h (fun x2 h1 => ((¬ x2 = 0 → CI M_X4_refusalOfOneMore d [.ref r0] h1 (fun x4 h3 => ((x4 = 0 → ∃ q5, gR h3 4 r0 2 = some q5 ∧ ∃ q6, gR h3 4 r0 0 = some q6 ∧ ∃ x7, gI h3 4 r0 5 = some x7 ∧ CV M_X2_take d [.ref q5, .ref q6, .int x7] h3 (fun h8 => L_X4_ways_41 d P h8 r0 i1 (0 : Int32) (0 : Int32))) ∧
    (¬ x4 = 0 → P x4 h3)))) ∧
  (x2 = 0 → P (-2 : Int32) h1)))) : CI M_X4_ways (d + 1) [.ref r0, .int i1] h P := by
  refine ⟨⟨r0, rfl, ho⟩, x_enter (by decide) (Nat.le_of_ble_eq_true rfl) ?_⟩
  show X (KM (some .int) (fun r h' => ∃ x, r = some (.int x) ∧ P x h')) RX4 cX4_ways 5 (d + 1) h 0 [(0, .ref r0), (1, .int i1)] []
  refine x_iload_n dX4_ways_0 rfl 1 rfl ?_
  refine x_sI sl_X4_117 dX4_ways_1 (As := [.int i1]) rfl rfl (Nat.le_of_ble_eq_true rfl) (CI.mono H (fun x2 h1 H => ?_))
  refine x_if_ne (tgt := 10) dX4_ways_4 (by decide) (fun c => ?_) (fun c => ?_)
  · replace H := H.1 c
    refine x_aload_n dX4_ways_10 rfl 0 rfl ?_
    refine x_vI vl_X4_128 dX4_ways_11 (As := []) rfl rfl (Nat.le_of_ble_eq_true rfl) (CI.mono H (fun x4 h3 H => ?_))
    refine x_istore_n dX4_ways_14 rfl (by decide) (lv' := [(2, .int x4), (0, .ref r0), (1, .int i1)]) rfl ?_
    refine x_iload_n dX4_ways_15 rfl 0 rfl ?_
    refine x_if_eq (tgt := 21) dX4_ways_16 (by decide) (fun c => ?_) (fun c => ?_)
    · replace H := H.1 c
      refine x_aload_n dX4_ways_21 rfl 1 rfl ?_
      obtain ⟨q5, eq5, H⟩ := H
      refine x_getR fl_X4_22 dX4_ways_22 eq5 ?_
      refine x_aload_n dX4_ways_25 rfl 1 rfl ?_
      obtain ⟨q6, eq6, H⟩ := H
      refine x_getR fl_X4_10 dX4_ways_26 eq6 ?_
      refine x_aload_n dX4_ways_29 rfl 1 rfl ?_
      obtain ⟨x7, ex7, H⟩ := H
      refine x_getI fl_X4_39 dX4_ways_30 ex7 ?_
      refine x_vV vl_X4_99 dX4_ways_33 (As := [.ref q6, .int x7]) rfl rfl (Nat.le_of_ble_eq_true rfl) (CV.mono H (fun h8 H => ?_))
      refine x_iconst (v := (0 : Int32)) dX4_ways_36 (by decide) ?_
      refine x_istore_n dX4_ways_37 rfl (by decide) (lv' := [(3, .int (0 : Int32)), (2, .int x4), (0, .ref r0), (1, .int i1)]) rfl ?_
      refine x_iconst (v := (0 : Int32)) dX4_ways_38 (by decide) ?_
      refine x_istore dX4_ways_39 (by decide) (lv' := [(4, .int (0 : Int32)), (3, .int (0 : Int32)), (2, .int x4), (0, .ref r0), (1, .int i1)]) rfl ?_
      refine x_perm [3, 4, 1, 0] rfl ?_
      exact H
    · replace H := H.2 c
      refine x_iload_n dX4_ways_19 rfl 0 rfl ?_
      exact x_iret dX4_ways_20 ⟨_, rfl, H⟩
  · replace H := H.2 c
    refine x_bipush (v := (-2 : Int32)) dX4_ways_7 (by decide) ?_
    exact x_iret dX4_ways_9 ⟨_, rfl, H⟩
set_option maxRecDepth 20000 in
theorem r_X4_ways_41 {d : Nat} {P : Int32 → Hp → Prop} {h : Hp} {r0 : Nat} {i1 : Int32} {i3 : Int32} {i4 : Int32} (H : ∃ q1, gR h 4 r0 0 = some q1 ∧ ∃ x2, gI h 3 q1 1 = some x2 ∧ (((ishl (1 : Int32) x2) ≤ i4 → P i3 h) ∧
  (¬ (ishl (1 : Int32) x2) ≤ i4 → ∃ q3, gR h 4 r0 2 = some q3 ∧ CI M_X2_letsIn d [.ref q3, .int i4, .int i1] h (fun x5 h4 => ((x5 = 0 → L_X4_ways_41 d P h4 r0 i1 i3 (i4 + (2 : Int32))) ∧
    (¬ x5 = 0 → L_X4_ways_41 d P h4 r0 i1 (i3 + (1 : Int32)) (i4 + (2 : Int32)))))))) : L_X4_ways_41 d P h r0 i1 i3 i4 := by
  show X (KM (some .int) (fun r h' => ∃ x, r = some (.int x) ∧ P x h')) RX4 cX4_ways 5 (d + 1) h 41 [(0, .ref r0), (1, .int i1), (3, .int i3), (4, .int i4)] []
  refine x_iload dX4_ways_41 3 rfl ?_
  refine x_iconst (v := (1 : Int32)) dX4_ways_43 (by decide) ?_
  refine x_aload_n dX4_ways_44 rfl 0 rfl ?_
  obtain ⟨q1, eq1, H⟩ := H
  refine x_getR fl_X4_10 dX4_ways_45 eq1 ?_
  obtain ⟨x2, ex2, H⟩ := H
  refine x_getI fl_X4_51 dX4_ways_48 ex2 ?_
  refine x_ishl dX4_ways_51 ?_
  refine x_icmp_ge (tgt := 77) dX4_ways_52 (by decide) (fun c => ?_) (fun c => ?_)
  · replace H := H.1 c
    refine x_iload_n dX4_ways_77 rfl 2 rfl ?_
    exact x_iret dX4_ways_78 ⟨_, rfl, H⟩
  · replace H := H.2 c
    refine x_aload_n dX4_ways_55 rfl 0 rfl ?_
    obtain ⟨q3, eq3, H⟩ := H
    refine x_getR fl_X4_22 dX4_ways_56 eq3 ?_
    refine x_iload dX4_ways_59 3 rfl ?_
    refine x_iload_n dX4_ways_61 rfl 1 rfl ?_
    refine x_vI vl_X4_131 dX4_ways_62 (As := [.int i4, .int i1]) rfl rfl (Nat.le_of_ble_eq_true rfl) (CI.mono H (fun x5 h4 H => ?_))
    refine x_if_eq (tgt := 71) dX4_ways_65 (by decide) (fun c => ?_) (fun c => ?_)
    · replace H := H.1 c
      refine x_iinc (q := 3) (v := (i4 + (2 : Int32))) dX4_ways_71 rfl rfl (by decide) (lv' := [(4, .int (i4 + (2 : Int32))), (0, .ref r0), (1, .int i1), (3, .int i3)]) rfl ?_
      refine x_goto (tgt := 41) dX4_ways_74 (by decide) ?_
      refine x_perm [1, 2, 3, 0] rfl ?_
      exact H
    · replace H := H.2 c
      refine x_iinc (q := 2) (v := (i3 + (1 : Int32))) dX4_ways_68 rfl rfl (by decide) (lv' := [(3, .int (i3 + (1 : Int32))), (0, .ref r0), (1, .int i1), (4, .int i4)]) rfl ?_
      refine x_iinc (q := 3) (v := (i4 + (2 : Int32))) dX4_ways_71 rfl rfl (by decide) (lv' := [(4, .int (i4 + (2 : Int32))), (3, .int (i3 + (1 : Int32))), (0, .ref r0), (1, .int i1)]) rfl ?_
      refine x_goto (tgt := 41) dX4_ways_74 (by decide) ?_
      refine x_perm [2, 3, 1, 0] rfl ?_
      exact H
set_option maxRecDepth 20000 in
theorem e_X4_put {d : Nat} {P : Int32 → Hp → Prop} {h : Hp} {r0 : Nat} {i1 : Int32} (ho : r0 < 47 ∧ ∃ fs, h r0 = .inr (4, fs)) (H : ∃ q1, gR h 4 r0 0 = some q1 ∧ CI M_X3_isRow d [.ref q1, .int i1] h (fun x3 h2 => ((¬ x3 = 0 → ∃ q4, gR h2 4 r0 0 = some q4 ∧ ∃ x5, gI h2 3 q4 1 = some x5 ∧ ((x5 < (10 : Int32) → ∃ q6, gR h2 4 r0 0 = some q6 ∧ CV M_X3_addLine d [.ref q6, .int i1] h2 (fun h7 => ∃ q8, gR h7 4 r0 0 = some q8 ∧ ∃ x9, gI h7 3 q8 1 = some x9 ∧ P (x9 - (1 : Int32)) h7)) ∧
    (¬ x5 < (10 : Int32) → P (-4 : Int32) h2))) ∧
  (x3 = 0 → P (-2 : Int32) h2)))) : CI M_X4_put (d + 1) [.ref r0, .int i1] h P := by
  refine ⟨⟨r0, rfl, ho⟩, x_enter (by decide) (Nat.le_of_ble_eq_true rfl) ?_⟩
  show X (KM (some .int) (fun r h' => ∃ x, r = some (.int x) ∧ P x h')) RX4 cX4_put 2 (d + 1) h 0 [(0, .ref r0), (1, .int i1)] []
  refine x_aload_n dX4_put_0 rfl 0 rfl ?_
  obtain ⟨q1, eq1, H⟩ := H
  refine x_getR fl_X4_10 dX4_put_1 eq1 ?_
  refine x_iload_n dX4_put_4 rfl 1 rfl ?_
  refine x_vI vl_X4_125 dX4_put_5 (As := [.int i1]) rfl rfl (Nat.le_of_ble_eq_true rfl) (CI.mono H (fun x3 h2 H => ?_))
  refine x_if_ne (tgt := 14) dX4_put_8 (by decide) (fun c => ?_) (fun c => ?_)
  · replace H := H.1 c
    refine x_aload_n dX4_put_14 rfl 0 rfl ?_
    obtain ⟨q4, eq4, H⟩ := H
    refine x_getR fl_X4_10 dX4_put_15 eq4 ?_
    obtain ⟨x5, ex5, H⟩ := H
    refine x_getI fl_X4_51 dX4_put_18 ex5 ?_
    refine x_bipush (v := (10 : Int32)) dX4_put_21 (by decide) ?_
    refine x_icmp_lt (tgt := 29) dX4_put_23 (by decide) (fun c => ?_) (fun c => ?_)
    · replace H := H.1 c
      refine x_aload_n dX4_put_29 rfl 0 rfl ?_
      obtain ⟨q6, eq6, H⟩ := H
      refine x_getR fl_X4_10 dX4_put_30 eq6 ?_
      refine x_iload_n dX4_put_33 rfl 1 rfl ?_
      refine x_vV vl_X4_134 dX4_put_34 (As := [.int i1]) rfl rfl (Nat.le_of_ble_eq_true rfl) (CV.mono H (fun h7 H => ?_))
      refine x_aload_n dX4_put_37 rfl 0 rfl ?_
      obtain ⟨q8, eq8, H⟩ := H
      refine x_getR fl_X4_10 dX4_put_38 eq8 ?_
      obtain ⟨x9, ex9, H⟩ := H
      refine x_getI fl_X4_51 dX4_put_41 ex9 ?_
      refine x_iconst (v := (1 : Int32)) dX4_put_44 (by decide) ?_
      refine x_isub dX4_put_45 ?_
      exact x_iret dX4_put_46 ⟨_, rfl, H⟩
    · replace H := H.2 c
      refine x_bipush (v := (-4 : Int32)) dX4_put_26 (by decide) ?_
      exact x_iret dX4_put_28 ⟨_, rfl, H⟩
  · replace H := H.2 c
    refine x_bipush (v := (-2 : Int32)) dX4_put_11 (by decide) ?_
    exact x_iret dX4_put_13 ⟨_, rfl, H⟩
def L_X4_grow_67 (d : Nat) (P : Int32 → Hp → Prop) (h : Hp) (r0 : Nat) (i1 : Int32) (i2 : Int32) : Prop := X (KM (some .int) (fun r h' => ∃ x, r = some (.int x) ∧ P x h')) RX4 cX4_grow 4 (d + 1) h 67 [(0, .ref r0), (1, .int i1), (2, .int i2)] []
set_option maxRecDepth 20000 in
theorem e_X4_grow {d : Nat} {P : Int32 → Hp → Prop} {h : Hp} {r0 : Nat} {i1 : Int32} (ho : r0 < 47 ∧ ∃ fs, h r0 = .inr (4, fs)) (H : CI M_X4_isDimension d [.int i1] h (fun x2 h1 => ((¬ x2 = 0 → ∃ q3, gR h1 4 r0 2 = some q3 ∧ ∃ q4, gR h1 4 r0 0 = some q4 ∧ ∃ x5, gI h1 4 r0 5 = some x5 ∧ CV M_X2_take d [.ref q3, .ref q4, .int x5] h1 (fun h6 => ∃ q7, gR h6 4 r0 0 = some q7 ∧ ∃ x8, gI h6 3 q7 1 = some x8 ∧ ((x8 = 0 → P (-3 : Int32) h6) ∧
    (¬ x8 = 0 → ∃ q9, gR h6 4 r0 2 = some q9 ∧ CI M_X2_noneBelowZero d [.ref q9] h6 (fun x11 h10 => ((x11 = 0 → P (-3 : Int32) h10) ∧
      (¬ x11 = 0 → ∃ q12, gR h10 4 r0 2 = some q12 ∧ CI M_X2_dimensions d [.ref q12] h10 (fun x14 h13 => ((x14 ≤ i1 → ∃ q15, gR h13 4 r0 0 = some q15 ∧ ∃ x16, gI h13 3 q15 1 = some x16 ∧ L_X4_grow_67 d P h13 r0 i1 x16) ∧
        (¬ x14 ≤ i1 → P (-3 : Int32) h13)))))))))) ∧
  (x2 = 0 → P (-2 : Int32) h1)))) : CI M_X4_grow (d + 1) [.ref r0, .int i1] h P := by
  refine ⟨⟨r0, rfl, ho⟩, x_enter (by decide) (Nat.le_of_ble_eq_true rfl) ?_⟩
  show X (KM (some .int) (fun r h' => ∃ x, r = some (.int x) ∧ P x h')) RX4 cX4_grow 4 (d + 1) h 0 [(0, .ref r0), (1, .int i1)] []
  refine x_iload_n dX4_grow_0 rfl 1 rfl ?_
  refine x_sI sl_X4_117 dX4_grow_1 (As := [.int i1]) rfl rfl (Nat.le_of_ble_eq_true rfl) (CI.mono H (fun x2 h1 H => ?_))
  refine x_if_ne (tgt := 10) dX4_grow_4 (by decide) (fun c => ?_) (fun c => ?_)
  · replace H := H.1 c
    refine x_aload_n dX4_grow_10 rfl 0 rfl ?_
    obtain ⟨q3, eq3, H⟩ := H
    refine x_getR fl_X4_22 dX4_grow_11 eq3 ?_
    refine x_aload_n dX4_grow_14 rfl 0 rfl ?_
    obtain ⟨q4, eq4, H⟩ := H
    refine x_getR fl_X4_10 dX4_grow_15 eq4 ?_
    refine x_aload_n dX4_grow_18 rfl 0 rfl ?_
    obtain ⟨x5, ex5, H⟩ := H
    refine x_getI fl_X4_39 dX4_grow_19 ex5 ?_
    refine x_vV vl_X4_99 dX4_grow_22 (As := [.ref q4, .int x5]) rfl rfl (Nat.le_of_ble_eq_true rfl) (CV.mono H (fun h6 H => ?_))
    refine x_aload_n dX4_grow_25 rfl 0 rfl ?_
    obtain ⟨q7, eq7, H⟩ := H
    refine x_getR fl_X4_10 dX4_grow_26 eq7 ?_
    obtain ⟨x8, ex8, H⟩ := H
    refine x_getI fl_X4_51 dX4_grow_29 ex8 ?_
    refine x_if_eq (tgt := 56) dX4_grow_32 (by decide) (fun c => ?_) (fun c => ?_)
    · replace H := H.1 c
      refine x_bipush (v := (-3 : Int32)) dX4_grow_56 (by decide) ?_
      exact x_iret dX4_grow_58 ⟨_, rfl, H⟩
    · replace H := H.2 c
      refine x_aload_n dX4_grow_35 rfl 0 rfl ?_
      obtain ⟨q9, eq9, H⟩ := H
      refine x_getR fl_X4_22 dX4_grow_36 eq9 ?_
      refine x_vI vl_X4_110 dX4_grow_39 (As := []) rfl rfl (Nat.le_of_ble_eq_true rfl) (CI.mono H (fun x11 h10 H => ?_))
      refine x_if_eq (tgt := 56) dX4_grow_42 (by decide) (fun c => ?_) (fun c => ?_)
      · replace H := H.1 c
        refine x_bipush (v := (-3 : Int32)) dX4_grow_56 (by decide) ?_
        exact x_iret dX4_grow_58 ⟨_, rfl, H⟩
      · replace H := H.2 c
        refine x_aload_n dX4_grow_45 rfl 0 rfl ?_
        obtain ⟨q12, eq12, H⟩ := H
        refine x_getR fl_X4_22 dX4_grow_46 eq12 ?_
        refine x_vI vl_X4_114 dX4_grow_49 (As := []) rfl rfl (Nat.le_of_ble_eq_true rfl) (CI.mono H (fun x14 h13 H => ?_))
        refine x_iload_n dX4_grow_52 rfl 1 rfl ?_
        refine x_icmp_le (tgt := 59) dX4_grow_53 (by decide) (fun c => ?_) (fun c => ?_)
        · replace H := H.1 c
          refine x_aload_n dX4_grow_59 rfl 0 rfl ?_
          obtain ⟨q15, eq15, H⟩ := H
          refine x_getR fl_X4_10 dX4_grow_60 eq15 ?_
          obtain ⟨x16, ex16, H⟩ := H
          refine x_getI fl_X4_51 dX4_grow_63 ex16 ?_
          refine x_istore_n dX4_grow_66 rfl (by decide) (lv' := [(2, .int x16), (0, .ref r0), (1, .int i1)]) rfl ?_
          refine x_perm [1, 2, 0] rfl ?_
          exact H
        · replace H := H.2 c
          refine x_bipush (v := (-3 : Int32)) dX4_grow_56 (by decide) ?_
          exact x_iret dX4_grow_58 ⟨_, rfl, H⟩
  · replace H := H.2 c
    refine x_bipush (v := (-2 : Int32)) dX4_grow_7 (by decide) ?_
    exact x_iret dX4_grow_9 ⟨_, rfl, H⟩
set_option maxRecDepth 20000 in
theorem r_X4_grow_67 {d : Nat} {P : Int32 → Hp → Prop} {h : Hp} {r0 : Nat} {i1 : Int32} {i2 : Int32} (H : (((10 : Int32) ≤ i2 → ∃ q1, gR h 4 r0 0 = some q1 ∧ ∃ x2, gI h 3 q1 1 = some x2 ∧ P x2 h) ∧
  (¬ (10 : Int32) ≤ i2 → CI M_X4_leastGoing d [.ref r0, .int i1] h (fun x4 h3 => ((¬ x4 = (-1 : Int32) → ∃ q5, gR h3 4 r0 0 = some q5 ∧ CV M_X3_addLine d [.ref q5, .int x4] h3 (fun h6 => L_X4_grow_67 d P h6 r0 i1 (i2 + (1 : Int32)))) ∧
    (x4 = (-1 : Int32) → P i2 h3)))))) : L_X4_grow_67 d P h r0 i1 i2 := by
  show X (KM (some .int) (fun r h' => ∃ x, r = some (.int x) ∧ P x h')) RX4 cX4_grow 4 (d + 1) h 67 [(0, .ref r0), (1, .int i1), (2, .int i2)] []
  refine x_iload_n dX4_grow_67 rfl 2 rfl ?_
  refine x_bipush (v := (10 : Int32)) dX4_grow_68 (by decide) ?_
  refine x_icmp_ge (tgt := 100) dX4_grow_70 (by decide) (fun c => ?_) (fun c => ?_)
  · replace H := H.1 c
    refine x_aload_n dX4_grow_100 rfl 0 rfl ?_
    obtain ⟨q1, eq1, H⟩ := H
    refine x_getR fl_X4_10 dX4_grow_101 eq1 ?_
    obtain ⟨x2, ex2, H⟩ := H
    refine x_getI fl_X4_51 dX4_grow_104 ex2 ?_
    exact x_iret dX4_grow_107 ⟨_, rfl, H⟩
  · replace H := H.2 c
    refine x_aload_n dX4_grow_73 rfl 0 rfl ?_
    refine x_iload_n dX4_grow_74 rfl 1 rfl ?_
    refine x_vI vl_X4_137 dX4_grow_75 (As := [.int i1]) rfl rfl (Nat.le_of_ble_eq_true rfl) (CI.mono H (fun x4 h3 H => ?_))
    refine x_istore_n dX4_grow_78 rfl (by decide) (lv' := [(3, .int x4), (0, .ref r0), (1, .int i1), (2, .int i2)]) rfl ?_
    refine x_iload_n dX4_grow_79 rfl 0 rfl ?_
    refine x_iconst (v := (-1 : Int32)) dX4_grow_80 (by decide) ?_
    refine x_icmp_ne (tgt := 86) dX4_grow_81 (by decide) (fun c => ?_) (fun c => ?_)
    · replace H := H.1 c
      refine x_aload_n dX4_grow_86 rfl 1 rfl ?_
      obtain ⟨q5, eq5, H⟩ := H
      refine x_getR fl_X4_10 dX4_grow_87 eq5 ?_
      refine x_iload_n dX4_grow_90 rfl 0 rfl ?_
      refine x_vV vl_X4_134 dX4_grow_91 (As := [.int x4]) rfl rfl (Nat.le_of_ble_eq_true rfl) (CV.mono H (fun h6 H => ?_))
      refine x_iinc (q := 3) (v := (i2 + (1 : Int32))) dX4_grow_94 rfl rfl (by decide) (lv' := [(2, .int (i2 + (1 : Int32))), (3, .int x4), (0, .ref r0), (1, .int i1)]) rfl ?_
      refine x_goto (tgt := 67) dX4_grow_97 (by decide) ?_
      refine x_perm [2, 3, 0] rfl ?_
      exact H
    · replace H := H.2 c
      refine x_iload_n dX4_grow_84 rfl 3 rfl ?_
      exact x_iret dX4_grow_85 ⟨_, rfl, H⟩
set_option maxRecDepth 20000 in
theorem e_X4_refusalOfOneMore {d : Nat} {P : Int32 → Hp → Prop} {h : Hp} {r0 : Nat} (ho : r0 < 47 ∧ ∃ fs, h r0 = .inr (4, fs)) (H : ∃ q1, gR h 4 r0 0 = some q1 ∧ ∃ x2, gI h 3 q1 1 = some x2 ∧ ((¬ x2 = 0 → ∃ q3, gR h 4 r0 0 = some q3 ∧ ∃ x4, gI h 3 q3 1 = some x4 ∧ ((x4 < (10 : Int32) → P (0 : Int32) h) ∧
    (¬ x4 < (10 : Int32) → P (-4 : Int32) h))) ∧
  (x2 = 0 → P (-3 : Int32) h))) : CI M_X4_refusalOfOneMore (d + 1) [.ref r0] h P := by
  refine ⟨⟨r0, rfl, ho⟩, x_enter (by decide) (Nat.le_of_ble_eq_true rfl) ?_⟩
  show X (KM (some .int) (fun r h' => ∃ x, r = some (.int x) ∧ P x h')) RX4 cX4_refusalOfOneMore 1 (d + 1) h 0 [(0, .ref r0)] []
  refine x_aload_n dX4_refusalOfOneMore_0 rfl 0 rfl ?_
  obtain ⟨q1, eq1, H⟩ := H
  refine x_getR fl_X4_10 dX4_refusalOfOneMore_1 eq1 ?_
  obtain ⟨x2, ex2, H⟩ := H
  refine x_getI fl_X4_51 dX4_refusalOfOneMore_4 ex2 ?_
  refine x_if_ne (tgt := 13) dX4_refusalOfOneMore_7 (by decide) (fun c => ?_) (fun c => ?_)
  · replace H := H.1 c
    refine x_aload_n dX4_refusalOfOneMore_13 rfl 0 rfl ?_
    obtain ⟨q3, eq3, H⟩ := H
    refine x_getR fl_X4_10 dX4_refusalOfOneMore_14 eq3 ?_
    obtain ⟨x4, ex4, H⟩ := H
    refine x_getI fl_X4_51 dX4_refusalOfOneMore_17 ex4 ?_
    refine x_bipush (v := (10 : Int32)) dX4_refusalOfOneMore_20 (by decide) ?_
    refine x_icmp_lt (tgt := 30) dX4_refusalOfOneMore_22 (by decide) (fun c => ?_) (fun c => ?_)
    · replace H := H.1 c
      refine x_iconst (v := (0 : Int32)) dX4_refusalOfOneMore_30 (by decide) ?_
      exact x_iret dX4_refusalOfOneMore_31 ⟨_, rfl, H⟩
    · replace H := H.2 c
      refine x_bipush (v := (-4 : Int32)) dX4_refusalOfOneMore_25 (by decide) ?_
      refine x_goto (tgt := 31) dX4_refusalOfOneMore_27 (by decide) ?_
      exact x_iret dX4_refusalOfOneMore_31 ⟨_, rfl, H⟩
  · replace H := H.2 c
    refine x_bipush (v := (-3 : Int32)) dX4_refusalOfOneMore_10 (by decide) ?_
    exact x_iret dX4_refusalOfOneMore_12 ⟨_, rfl, H⟩
def L_X4_leastGoing_17 (d : Nat) (P : Int32 → Hp → Prop) (h : Hp) (r0 : Nat) (i1 : Int32) (i2 : Int32) : Prop := X (KM (some .int) (fun r h' => ∃ x, r = some (.int x) ∧ P x h')) RX4 cX4_leastGoing 3 (d + 1) h 17 [(0, .ref r0), (1, .int i1), (2, .int i2)] []
set_option maxRecDepth 20000 in
theorem e_X4_leastGoing {d : Nat} {P : Int32 → Hp → Prop} {h : Hp} {r0 : Nat} {i1 : Int32} (ho : r0 < 47 ∧ ∃ fs, h r0 = .inr (4, fs)) (H : ∃ q1, gR h 4 r0 2 = some q1 ∧ ∃ q2, gR h 4 r0 0 = some q2 ∧ ∃ x3, gI h 4 r0 5 = some x3 ∧ CV M_X2_take d [.ref q1, .ref q2, .int x3] h (fun h4 => L_X4_leastGoing_17 d P h4 r0 i1 (0 : Int32))) : CI M_X4_leastGoing (d + 1) [.ref r0, .int i1] h P := by
  refine ⟨⟨r0, rfl, ho⟩, x_enter (by decide) (Nat.le_of_ble_eq_true rfl) ?_⟩
  show X (KM (some .int) (fun r h' => ∃ x, r = some (.int x) ∧ P x h')) RX4 cX4_leastGoing 3 (d + 1) h 0 [(0, .ref r0), (1, .int i1)] []
  refine x_aload_n dX4_leastGoing_0 rfl 0 rfl ?_
  obtain ⟨q1, eq1, H⟩ := H
  refine x_getR fl_X4_22 dX4_leastGoing_1 eq1 ?_
  refine x_aload_n dX4_leastGoing_4 rfl 0 rfl ?_
  obtain ⟨q2, eq2, H⟩ := H
  refine x_getR fl_X4_10 dX4_leastGoing_5 eq2 ?_
  refine x_aload_n dX4_leastGoing_8 rfl 0 rfl ?_
  obtain ⟨x3, ex3, H⟩ := H
  refine x_getI fl_X4_39 dX4_leastGoing_9 ex3 ?_
  refine x_vV vl_X4_99 dX4_leastGoing_12 (As := [.ref q2, .int x3]) rfl rfl (Nat.le_of_ble_eq_true rfl) (CV.mono H (fun h4 H => ?_))
  refine x_iconst (v := (0 : Int32)) dX4_leastGoing_15 (by decide) ?_
  refine x_istore_n dX4_leastGoing_16 rfl (by decide) (lv' := [(2, .int (0 : Int32)), (0, .ref r0), (1, .int i1)]) rfl ?_
  refine x_perm [1, 2, 0] rfl ?_
  exact H
set_option maxRecDepth 20000 in
theorem r_X4_leastGoing_17 {d : Nat} {P : Int32 → Hp → Prop} {h : Hp} {r0 : Nat} {i1 : Int32} {i2 : Int32} (H : ∃ q1, gR h 4 r0 0 = some q1 ∧ ∃ x2, gI h 3 q1 1 = some x2 ∧ (((ishl (1 : Int32) x2) ≤ i2 → P (-1 : Int32) h) ∧
  (¬ (ishl (1 : Int32) x2) ≤ i2 → ∃ q3, gR h 4 r0 2 = some q3 ∧ CI M_X2_letsIn d [.ref q3, .int i2, .int i1] h (fun x5 h4 => ((x5 = 0 → L_X4_leastGoing_17 d P h4 r0 i1 (i2 + (2 : Int32))) ∧
    (¬ x5 = 0 → P i2 h4)))))) : L_X4_leastGoing_17 d P h r0 i1 i2 := by
  show X (KM (some .int) (fun r h' => ∃ x, r = some (.int x) ∧ P x h')) RX4 cX4_leastGoing 3 (d + 1) h 17 [(0, .ref r0), (1, .int i1), (2, .int i2)] []
  refine x_iload_n dX4_leastGoing_17 rfl 2 rfl ?_
  refine x_iconst (v := (1 : Int32)) dX4_leastGoing_18 (by decide) ?_
  refine x_aload_n dX4_leastGoing_19 rfl 0 rfl ?_
  obtain ⟨q1, eq1, H⟩ := H
  refine x_getR fl_X4_10 dX4_leastGoing_20 eq1 ?_
  obtain ⟨x2, ex2, H⟩ := H
  refine x_getI fl_X4_51 dX4_leastGoing_23 ex2 ?_
  refine x_ishl dX4_leastGoing_26 ?_
  refine x_icmp_ge (tgt := 50) dX4_leastGoing_27 (by decide) (fun c => ?_) (fun c => ?_)
  · replace H := H.1 c
    refine x_iconst (v := (-1 : Int32)) dX4_leastGoing_50 (by decide) ?_
    exact x_iret dX4_leastGoing_51 ⟨_, rfl, H⟩
  · replace H := H.2 c
    refine x_aload_n dX4_leastGoing_30 rfl 0 rfl ?_
    obtain ⟨q3, eq3, H⟩ := H
    refine x_getR fl_X4_22 dX4_leastGoing_31 eq3 ?_
    refine x_iload_n dX4_leastGoing_34 rfl 2 rfl ?_
    refine x_iload_n dX4_leastGoing_35 rfl 1 rfl ?_
    refine x_vI vl_X4_131 dX4_leastGoing_36 (As := [.int i2, .int i1]) rfl rfl (Nat.le_of_ble_eq_true rfl) (CI.mono H (fun x5 h4 H => ?_))
    refine x_if_eq (tgt := 44) dX4_leastGoing_39 (by decide) (fun c => ?_) (fun c => ?_)
    · replace H := H.1 c
      refine x_iinc (q := 2) (v := (i2 + (2 : Int32))) dX4_leastGoing_44 rfl rfl (by decide) (lv' := [(2, .int (i2 + (2 : Int32))), (0, .ref r0), (1, .int i1)]) rfl ?_
      refine x_goto (tgt := 17) dX4_leastGoing_47 (by decide) ?_
      refine x_perm [1, 2, 0] rfl ?_
      exact H
    · replace H := H.2 c
      refine x_iload_n dX4_leastGoing_42 rfl 2 rfl ?_
      exact x_iret dX4_leastGoing_43 ⟨_, rfl, H⟩
set_option maxRecDepth 20000 in
theorem e_X4_name {d : Nat} {P : Int32 → Hp → Prop} {h : Hp} {r0 : Nat} (ho : r0 < 47 ∧ ∃ fs, h r0 = .inr (4, fs)) (H : ∃ q1, gR h 4 r0 0 = some q1 ∧ ∃ x2, gI h 3 q1 1 = some x2 ∧ ((x2 ≤ (7 : Int32) → ∃ q3, gR h 4 r0 3 = some q3 ∧ ∃ q4, gR h 4 r0 0 = some q4 ∧ CI M_X0_least d [.ref q3, .ref q4] h (fun x6 h5 => P x6 h5)) ∧
  (¬ x2 ≤ (7 : Int32) → P (-3 : Int32) h))) : CI M_X4_name (d + 1) [.ref r0] h P := by
  refine ⟨⟨r0, rfl, ho⟩, x_enter (by decide) (Nat.le_of_ble_eq_true rfl) ?_⟩
  show X (KM (some .int) (fun r h' => ∃ x, r = some (.int x) ∧ P x h')) RX4 cX4_name 1 (d + 1) h 0 [(0, .ref r0)] []
  refine x_aload_n dX4_name_0 rfl 0 rfl ?_
  obtain ⟨q1, eq1, H⟩ := H
  refine x_getR fl_X4_10 dX4_name_1 eq1 ?_
  obtain ⟨x2, ex2, H⟩ := H
  refine x_getI fl_X4_51 dX4_name_4 ex2 ?_
  refine x_bipush (v := (7 : Int32)) dX4_name_7 (by decide) ?_
  refine x_icmp_le (tgt := 15) dX4_name_9 (by decide) (fun c => ?_) (fun c => ?_)
  · replace H := H.1 c
    refine x_aload_n dX4_name_15 rfl 0 rfl ?_
    obtain ⟨q3, eq3, H⟩ := H
    refine x_getR fl_X4_29 dX4_name_16 eq3 ?_
    refine x_aload_n dX4_name_19 rfl 0 rfl ?_
    obtain ⟨q4, eq4, H⟩ := H
    refine x_getR fl_X4_10 dX4_name_20 eq4 ?_
    refine x_vI vl_X4_140 dX4_name_23 (As := [.ref q4]) rfl rfl (Nat.le_of_ble_eq_true rfl) (CI.mono H (fun x6 h5 H => ?_))
    exact x_iret dX4_name_26 ⟨_, rfl, H⟩
  · replace H := H.2 c
    refine x_bipush (v := (-3 : Int32)) dX4_name_12 (by decide) ?_
    exact x_iret dX4_name_14 ⟨_, rfl, H⟩
def L_X4_plain_44 (d : Nat) (P : Int32 → Hp → Prop) (h : Hp) (r0 : Nat) (i1 : Int32) (i2 : Int32) : Prop := X (KM (some .int) (fun r h' => ∃ x, r = some (.int x) ∧ P x h')) RX4 cX4_plain 3 (d + 1) h 44 [(0, .ref r0), (1, .int i1), (2, .int i2)] []
set_option maxRecDepth 20000 in
theorem e_X4_plain {d : Nat} {P : Int32 → Hp → Prop} {h : Hp} {r0 : Nat} (ho : r0 < 47 ∧ ∃ fs, h r0 = .inr (4, fs)) (H : ∃ q1, gR h 4 r0 0 = some q1 ∧ ∃ x2, gI h 3 q1 1 = some x2 ∧ ((x2 ≤ (7 : Int32) → ∃ q3, gR h 4 r0 1 = some q3 ∧ ∃ q4, gR h 4 r0 0 = some q4 ∧ ∃ x5, gI h 3 q4 1 = some x5 ∧ ∃ q6, gR h 4 r0 3 = some q6 ∧ ∃ q7, gR h 4 r0 0 = some q7 ∧ CI M_X0_least d [.ref q6, .ref q7] h (fun x9 h8 => CV M_X3_startNamed d [.ref q3, .int x5, .int x9] h8 (fun h10 => L_X4_plain_44 d P h10 r0 (0 : Int32) (0 : Int32)))) ∧
  (¬ x2 ≤ (7 : Int32) → P (-3 : Int32) h))) : CI M_X4_plain (d + 1) [.ref r0] h P := by
  refine ⟨⟨r0, rfl, ho⟩, x_enter (by decide) (Nat.le_of_ble_eq_true rfl) ?_⟩
  show X (KM (some .int) (fun r h' => ∃ x, r = some (.int x) ∧ P x h')) RX4 cX4_plain 3 (d + 1) h 0 [(0, .ref r0)] []
  refine x_aload_n dX4_plain_0 rfl 0 rfl ?_
  obtain ⟨q1, eq1, H⟩ := H
  refine x_getR fl_X4_10 dX4_plain_1 eq1 ?_
  obtain ⟨x2, ex2, H⟩ := H
  refine x_getI fl_X4_51 dX4_plain_4 ex2 ?_
  refine x_bipush (v := (7 : Int32)) dX4_plain_7 (by decide) ?_
  refine x_icmp_le (tgt := 15) dX4_plain_9 (by decide) (fun c => ?_) (fun c => ?_)
  · replace H := H.1 c
    refine x_aload_n dX4_plain_15 rfl 0 rfl ?_
    obtain ⟨q3, eq3, H⟩ := H
    refine x_getR fl_X4_16 dX4_plain_16 eq3 ?_
    refine x_aload_n dX4_plain_19 rfl 0 rfl ?_
    obtain ⟨q4, eq4, H⟩ := H
    refine x_getR fl_X4_10 dX4_plain_20 eq4 ?_
    obtain ⟨x5, ex5, H⟩ := H
    refine x_getI fl_X4_51 dX4_plain_23 ex5 ?_
    refine x_aload_n dX4_plain_26 rfl 0 rfl ?_
    obtain ⟨q6, eq6, H⟩ := H
    refine x_getR fl_X4_29 dX4_plain_27 eq6 ?_
    refine x_aload_n dX4_plain_30 rfl 0 rfl ?_
    obtain ⟨q7, eq7, H⟩ := H
    refine x_getR fl_X4_10 dX4_plain_31 eq7 ?_
    refine x_vI vl_X4_140 dX4_plain_34 (As := [.ref q7]) rfl rfl (Nat.le_of_ble_eq_true rfl) (CI.mono H (fun x9 h8 H => ?_))
    refine x_vV vl_X4_144 dX4_plain_37 (As := [.int x5, .int x9]) rfl rfl (Nat.le_of_ble_eq_true rfl) (CV.mono H (fun h10 H => ?_))
    refine x_iconst (v := (0 : Int32)) dX4_plain_40 (by decide) ?_
    refine x_istore_n dX4_plain_41 rfl (by decide) (lv' := [(1, .int (0 : Int32)), (0, .ref r0)]) rfl ?_
    refine x_iconst (v := (0 : Int32)) dX4_plain_42 (by decide) ?_
    refine x_istore_n dX4_plain_43 rfl (by decide) (lv' := [(2, .int (0 : Int32)), (1, .int (0 : Int32)), (0, .ref r0)]) rfl ?_
    refine x_perm [2, 1, 0] rfl ?_
    exact H
  · replace H := H.2 c
    refine x_bipush (v := (-3 : Int32)) dX4_plain_12 (by decide) ?_
    exact x_iret dX4_plain_14 ⟨_, rfl, H⟩
set_option maxRecDepth 20000 in
theorem r_X4_plain_44 {d : Nat} {P : Int32 → Hp → Prop} {h : Hp} {r0 : Nat} {i1 : Int32} {i2 : Int32} (H : ∃ q1, gR h 4 r0 0 = some q1 ∧ ∃ x2, gI h 3 q1 1 = some x2 ∧ ((x2 ≤ i2 → P i1 h) ∧
  (¬ x2 ≤ i2 → ∃ q3, gR h 4 r0 0 = some q3 ∧ ∃ q4, gR h 3 q3 0 = some q4 ∧ ∃ x5, lI h q4 i2 = some x5 ∧ ∃ q6, gR h 4 r0 1 = some q6 ∧ ∃ q7, gR h 3 q6 0 = some q7 ∧ ∃ x8, lI h q7 i2 = some x8 ∧ ((x5 = x8 → ∃ q9, gR h 4 r0 0 = some q9 ∧ ∃ q10, gR h 3 q9 0 = some q10 ∧ ∃ q11, gR h 4 r0 1 = some q11 ∧ ∃ q12, gR h 3 q11 0 = some q12 ∧ ∃ x13, lI h q12 i2 = some x13 ∧ ∃ h14, sI h q10 i2 x13 = some h14 ∧ L_X4_plain_44 d P h14 r0 i1 (i2 + (1 : Int32))) ∧
    (¬ x5 = x8 → ∃ q15, gR h 4 r0 0 = some q15 ∧ ∃ q16, gR h 3 q15 0 = some q16 ∧ ∃ q17, gR h 4 r0 1 = some q17 ∧ ∃ q18, gR h 3 q17 0 = some q18 ∧ ∃ x19, lI h q18 i2 = some x19 ∧ ∃ h20, sI h q16 i2 x19 = some h20 ∧ L_X4_plain_44 d P h20 r0 (i1 + (1 : Int32)) (i2 + (1 : Int32))))))) : L_X4_plain_44 d P h r0 i1 i2 := by
  show X (KM (some .int) (fun r h' => ∃ x, r = some (.int x) ∧ P x h')) RX4 cX4_plain 3 (d + 1) h 44 [(0, .ref r0), (1, .int i1), (2, .int i2)] []
  refine x_iload_n dX4_plain_44 rfl 2 rfl ?_
  refine x_aload_n dX4_plain_45 rfl 0 rfl ?_
  obtain ⟨q1, eq1, H⟩ := H
  refine x_getR fl_X4_10 dX4_plain_46 eq1 ?_
  obtain ⟨x2, ex2, H⟩ := H
  refine x_getI fl_X4_51 dX4_plain_49 ex2 ?_
  refine x_icmp_ge (tgt := 103) dX4_plain_52 (by decide) (fun c => ?_) (fun c => ?_)
  · replace H := H.1 c
    refine x_iload_n dX4_plain_103 rfl 1 rfl ?_
    exact x_iret dX4_plain_104 ⟨_, rfl, H⟩
  · replace H := H.2 c
    refine x_aload_n dX4_plain_55 rfl 0 rfl ?_
    obtain ⟨q3, eq3, H⟩ := H
    refine x_getR fl_X4_10 dX4_plain_56 eq3 ?_
    obtain ⟨q4, eq4, H⟩ := H
    refine x_getR fl_X4_76 dX4_plain_59 eq4 ?_
    refine x_iload_n dX4_plain_62 rfl 2 rfl ?_
    obtain ⟨x5, ex5, H⟩ := H
    refine x_iaload dX4_plain_63 ex5 ?_
    refine x_aload_n dX4_plain_64 rfl 0 rfl ?_
    obtain ⟨q6, eq6, H⟩ := H
    refine x_getR fl_X4_16 dX4_plain_65 eq6 ?_
    obtain ⟨q7, eq7, H⟩ := H
    refine x_getR fl_X4_76 dX4_plain_68 eq7 ?_
    refine x_iload_n dX4_plain_71 rfl 2 rfl ?_
    obtain ⟨x8, ex8, H⟩ := H
    refine x_iaload dX4_plain_72 ex8 ?_
    refine x_icmp_eq (tgt := 79) dX4_plain_73 (by decide) (fun c => ?_) (fun c => ?_)
    · replace H := H.1 c
      refine x_aload_n dX4_plain_79 rfl 0 rfl ?_
      obtain ⟨q9, eq9, H⟩ := H
      refine x_getR fl_X4_10 dX4_plain_80 eq9 ?_
      obtain ⟨q10, eq10, H⟩ := H
      refine x_getR fl_X4_76 dX4_plain_83 eq10 ?_
      refine x_iload_n dX4_plain_86 rfl 2 rfl ?_
      refine x_aload_n dX4_plain_87 rfl 0 rfl ?_
      obtain ⟨q11, eq11, H⟩ := H
      refine x_getR fl_X4_16 dX4_plain_88 eq11 ?_
      obtain ⟨q12, eq12, H⟩ := H
      refine x_getR fl_X4_76 dX4_plain_91 eq12 ?_
      refine x_iload_n dX4_plain_94 rfl 2 rfl ?_
      obtain ⟨x13, ex13, H⟩ := H
      refine x_iaload dX4_plain_95 ex13 ?_
      obtain ⟨h14, eh14, H⟩ := H
      refine x_iastore dX4_plain_96 eh14 ?_
      refine x_iinc (q := 2) (v := (i2 + (1 : Int32))) dX4_plain_97 rfl rfl (by decide) (lv' := [(2, .int (i2 + (1 : Int32))), (0, .ref r0), (1, .int i1)]) rfl ?_
      refine x_goto (tgt := 44) dX4_plain_100 (by decide) ?_
      refine x_perm [1, 2, 0] rfl ?_
      exact H
    · replace H := H.2 c
      refine x_iinc (q := 1) (v := (i1 + (1 : Int32))) dX4_plain_76 rfl rfl (by decide) (lv' := [(1, .int (i1 + (1 : Int32))), (0, .ref r0), (2, .int i2)]) rfl ?_
      refine x_aload_n dX4_plain_79 rfl 1 rfl ?_
      obtain ⟨q15, eq15, H⟩ := H
      refine x_getR fl_X4_10 dX4_plain_80 eq15 ?_
      obtain ⟨q16, eq16, H⟩ := H
      refine x_getR fl_X4_76 dX4_plain_83 eq16 ?_
      refine x_iload_n dX4_plain_86 rfl 2 rfl ?_
      refine x_aload_n dX4_plain_87 rfl 1 rfl ?_
      obtain ⟨q17, eq17, H⟩ := H
      refine x_getR fl_X4_16 dX4_plain_88 eq17 ?_
      obtain ⟨q18, eq18, H⟩ := H
      refine x_getR fl_X4_76 dX4_plain_91 eq18 ?_
      refine x_iload_n dX4_plain_94 rfl 2 rfl ?_
      obtain ⟨x19, ex19, H⟩ := H
      refine x_iaload dX4_plain_95 ex19 ?_
      obtain ⟨h20, eh20, H⟩ := H
      refine x_iastore dX4_plain_96 eh20 ?_
      refine x_iinc (q := 2) (v := (i2 + (1 : Int32))) dX4_plain_97 rfl rfl (by decide) (lv' := [(2, .int (i2 + (1 : Int32))), (1, .int (i1 + (1 : Int32))), (0, .ref r0)]) rfl ?_
      refine x_goto (tgt := 44) dX4_plain_100 (by decide) ?_
      refine x_perm [2, 1, 0] rfl ?_
      exact H
set_option maxRecDepth 20000 in
theorem e_X4_group {d : Nat} {P : Int32 → Hp → Prop} {h : Hp} {r0 : Nat} (ho : r0 < 47 ∧ ∃ fs, h r0 = .inr (4, fs)) (H : ∃ q1, gR h 4 r0 0 = some q1 ∧ ∃ x2, gI h 3 q1 1 = some x2 ∧ ((x2 ≤ (7 : Int32) → ∃ q3, gR h 4 r0 3 = some q3 ∧ ∃ q4, gR h 4 r0 0 = some q4 ∧ CI M_X0_keeping d [.ref q3, .ref q4] h (fun x6 h5 => P x6 h5)) ∧
  (¬ x2 ≤ (7 : Int32) → P (-3 : Int32) h))) : CI M_X4_group (d + 1) [.ref r0] h P := by
  refine ⟨⟨r0, rfl, ho⟩, x_enter (by decide) (Nat.le_of_ble_eq_true rfl) ?_⟩
  show X (KM (some .int) (fun r h' => ∃ x, r = some (.int x) ∧ P x h')) RX4 cX4_group 1 (d + 1) h 0 [(0, .ref r0)] []
  refine x_aload_n dX4_group_0 rfl 0 rfl ?_
  obtain ⟨q1, eq1, H⟩ := H
  refine x_getR fl_X4_10 dX4_group_1 eq1 ?_
  obtain ⟨x2, ex2, H⟩ := H
  refine x_getI fl_X4_51 dX4_group_4 ex2 ?_
  refine x_bipush (v := (7 : Int32)) dX4_group_7 (by decide) ?_
  refine x_icmp_le (tgt := 15) dX4_group_9 (by decide) (fun c => ?_) (fun c => ?_)
  · replace H := H.1 c
    refine x_aload_n dX4_group_15 rfl 0 rfl ?_
    obtain ⟨q3, eq3, H⟩ := H
    refine x_getR fl_X4_29 dX4_group_16 eq3 ?_
    refine x_aload_n dX4_group_19 rfl 0 rfl ?_
    obtain ⟨q4, eq4, H⟩ := H
    refine x_getR fl_X4_10 dX4_group_20 eq4 ?_
    refine x_vI vl_X4_147 dX4_group_23 (As := [.ref q4]) rfl rfl (Nat.le_of_ble_eq_true rfl) (CI.mono H (fun x6 h5 H => ?_))
    exact x_iret dX4_group_26 ⟨_, rfl, H⟩
  · replace H := H.2 c
    refine x_bipush (v := (-3 : Int32)) dX4_group_12 (by decide) ?_
    exact x_iret dX4_group_14 ⟨_, rfl, H⟩
def L_X4_kinds_30 (d : Nat) (P : Int32 → Hp → Prop) (h : Hp) (r0 : Nat) (i1 : Int32) (i2 : Int32) (i3 : Int32) (i4 : Int32) : Prop := X (KM (some .int) (fun r h' => ∃ x, r = some (.int x) ∧ P x h')) RX4 cX4_kinds 5 (d + 1) h 30 [(0, .ref r0), (1, .int i1), (2, .int i2), (3, .int i3), (4, .int i4)] []
set_option maxRecDepth 20000 in
theorem e_X4_kinds {d : Nat} {P : Int32 → Hp → Prop} {h : Hp} {r0 : Nat} {i1 : Int32} (ho : r0 < 47 ∧ ∃ fs, h r0 = .inr (4, fs)) (H : ((i1 < (1 : Int32) → P (-2 : Int32) h) ∧
  (¬ i1 < (1 : Int32) → ((i1 ≤ (5 : Int32) → L_X4_kinds_30 d P h r0 i1 (ishl (1 : Int32) (((i1 - (1 : Int32)) * (i1 - (2 : Int32))) / (2 : Int32))) (0 : Int32) (0 : Int32)) ∧
    (¬ i1 ≤ (5 : Int32) → P (-2 : Int32) h))))) : CI M_X4_kinds (d + 1) [.ref r0, .int i1] h P := by
  refine ⟨⟨r0, rfl, ho⟩, x_enter (by decide) (Nat.le_of_ble_eq_true rfl) ?_⟩
  show X (KM (some .int) (fun r h' => ∃ x, r = some (.int x) ∧ P x h')) RX4 cX4_kinds 5 (d + 1) h 0 [(0, .ref r0), (1, .int i1)] []
  refine x_iload_n dX4_kinds_0 rfl 1 rfl ?_
  refine x_iconst (v := (1 : Int32)) dX4_kinds_1 (by decide) ?_
  refine x_icmp_lt (tgt := 10) dX4_kinds_2 (by decide) (fun c => ?_) (fun c => ?_)
  · replace H := H.1 c
    refine x_bipush (v := (-2 : Int32)) dX4_kinds_10 (by decide) ?_
    exact x_iret dX4_kinds_12 ⟨_, rfl, H⟩
  · replace H := H.2 c
    refine x_iload_n dX4_kinds_5 rfl 1 rfl ?_
    refine x_iconst (v := (5 : Int32)) dX4_kinds_6 (by decide) ?_
    refine x_icmp_le (tgt := 13) dX4_kinds_7 (by decide) (fun c => ?_) (fun c => ?_)
    · replace H := H.1 c
      refine x_iconst (v := (1 : Int32)) dX4_kinds_13 (by decide) ?_
      refine x_iload_n dX4_kinds_14 rfl 1 rfl ?_
      refine x_iconst (v := (1 : Int32)) dX4_kinds_15 (by decide) ?_
      refine x_isub dX4_kinds_16 ?_
      refine x_iload_n dX4_kinds_17 rfl 1 rfl ?_
      refine x_iconst (v := (2 : Int32)) dX4_kinds_18 (by decide) ?_
      refine x_isub dX4_kinds_19 ?_
      refine x_imul dX4_kinds_20 ?_
      refine x_iconst (v := (2 : Int32)) dX4_kinds_21 (by decide) ?_
      refine x_idiv dX4_kinds_22 (by decide) ?_
      refine x_ishl dX4_kinds_23 ?_
      refine x_istore_n dX4_kinds_24 rfl (by decide) (lv' := [(2, .int (ishl (1 : Int32) (((i1 - (1 : Int32)) * (i1 - (2 : Int32))) / (2 : Int32)))), (0, .ref r0), (1, .int i1)]) rfl ?_
      refine x_iconst (v := (0 : Int32)) dX4_kinds_25 (by decide) ?_
      refine x_istore_n dX4_kinds_26 rfl (by decide) (lv' := [(3, .int (0 : Int32)), (2, .int (ishl (1 : Int32) (((i1 - (1 : Int32)) * (i1 - (2 : Int32))) / (2 : Int32)))), (0, .ref r0), (1, .int i1)]) rfl ?_
      refine x_iconst (v := (0 : Int32)) dX4_kinds_27 (by decide) ?_
      refine x_istore dX4_kinds_28 (by decide) (lv' := [(4, .int (0 : Int32)), (3, .int (0 : Int32)), (2, .int (ishl (1 : Int32) (((i1 - (1 : Int32)) * (i1 - (2 : Int32))) / (2 : Int32)))), (0, .ref r0), (1, .int i1)]) rfl ?_
      refine x_perm [3, 4, 2, 1, 0] rfl ?_
      exact H
    · replace H := H.2 c
      refine x_bipush (v := (-2 : Int32)) dX4_kinds_10 (by decide) ?_
      exact x_iret dX4_kinds_12 ⟨_, rfl, H⟩
set_option maxRecDepth 20000 in
theorem r_X4_kinds_30 {d : Nat} {P : Int32 → Hp → Prop} {h : Hp} {r0 : Nat} {i1 : Int32} {i2 : Int32} {i3 : Int32} {i4 : Int32} (H : ((i2 ≤ i4 → P i3 h) ∧
  (¬ i2 ≤ i4 → ∃ q1, gR h 4 r0 1 = some q1 ∧ CV M_X3_startNamed d [.ref q1, .int i1, .int i4] h (fun h2 => ∃ q3, gR h2 4 r0 3 = some q3 ∧ ∃ q4, gR h2 4 r0 1 = some q4 ∧ CI M_X0_least d [.ref q3, .ref q4] h2 (fun x6 h5 => ((¬ x6 = i4 → L_X4_kinds_30 d P h5 r0 i1 i2 i3 (i4 + (1 : Int32))) ∧
    (x6 = i4 → L_X4_kinds_30 d P h5 r0 i1 i2 (i3 + (1 : Int32)) (i4 + (1 : Int32))))))))) : L_X4_kinds_30 d P h r0 i1 i2 i3 i4 := by
  show X (KM (some .int) (fun r h' => ∃ x, r = some (.int x) ∧ P x h')) RX4 cX4_kinds 5 (d + 1) h 30 [(0, .ref r0), (1, .int i1), (2, .int i2), (3, .int i3), (4, .int i4)] []
  refine x_iload dX4_kinds_30 4 rfl ?_
  refine x_iload_n dX4_kinds_32 rfl 2 rfl ?_
  refine x_icmp_ge (tgt := 71) dX4_kinds_33 (by decide) (fun c => ?_) (fun c => ?_)
  · replace H := H.1 c
    refine x_iload_n dX4_kinds_71 rfl 3 rfl ?_
    exact x_iret dX4_kinds_72 ⟨_, rfl, H⟩
  · replace H := H.2 c
    refine x_aload_n dX4_kinds_36 rfl 0 rfl ?_
    obtain ⟨q1, eq1, H⟩ := H
    refine x_getR fl_X4_16 dX4_kinds_37 eq1 ?_
    refine x_iload_n dX4_kinds_40 rfl 1 rfl ?_
    refine x_iload dX4_kinds_41 4 rfl ?_
    refine x_vV vl_X4_144 dX4_kinds_43 (As := [.int i1, .int i4]) rfl rfl (Nat.le_of_ble_eq_true rfl) (CV.mono H (fun h2 H => ?_))
    refine x_aload_n dX4_kinds_46 rfl 0 rfl ?_
    obtain ⟨q3, eq3, H⟩ := H
    refine x_getR fl_X4_29 dX4_kinds_47 eq3 ?_
    refine x_aload_n dX4_kinds_50 rfl 0 rfl ?_
    obtain ⟨q4, eq4, H⟩ := H
    refine x_getR fl_X4_16 dX4_kinds_51 eq4 ?_
    refine x_vI vl_X4_140 dX4_kinds_54 (As := [.ref q4]) rfl rfl (Nat.le_of_ble_eq_true rfl) (CI.mono H (fun x6 h5 H => ?_))
    refine x_iload dX4_kinds_57 4 rfl ?_
    refine x_icmp_ne (tgt := 65) dX4_kinds_59 (by decide) (fun c => ?_) (fun c => ?_)
    · replace H := H.1 c
      refine x_iinc (q := 4) (v := (i4 + (1 : Int32))) dX4_kinds_65 rfl rfl (by decide) (lv' := [(4, .int (i4 + (1 : Int32))), (0, .ref r0), (1, .int i1), (2, .int i2), (3, .int i3)]) rfl ?_
      refine x_goto (tgt := 30) dX4_kinds_68 (by decide) ?_
      refine x_perm [1, 2, 3, 4, 0] rfl ?_
      exact H
    · replace H := H.2 c
      refine x_iinc (q := 3) (v := (i3 + (1 : Int32))) dX4_kinds_62 rfl rfl (by decide) (lv' := [(3, .int (i3 + (1 : Int32))), (0, .ref r0), (1, .int i1), (2, .int i2), (4, .int i4)]) rfl ?_
      refine x_iinc (q := 4) (v := (i4 + (1 : Int32))) dX4_kinds_65 rfl rfl (by decide) (lv' := [(4, .int (i4 + (1 : Int32))), (3, .int (i3 + (1 : Int32))), (0, .ref r0), (1, .int i1), (2, .int i2)]) rfl ?_
      refine x_goto (tgt := 30) dX4_kinds_68 (by decide) ?_
      refine x_perm [2, 3, 4, 1, 0] rfl ?_
      exact H
set_option maxRecDepth 20000 in
theorem e_X4_hits {d : Nat} {P : Int32 → Hp → Prop} {h : Hp} {r0 : Nat} {i1 : Int32} {i2 : Int32} {i3 : Int32} (ho : r0 < 47 ∧ ∃ fs, h r0 = .inr (4, fs)) (H : CI M_X4_isSet d [.int i1, .int i2] h (fun x2 h1 => ((x2 = 0 → P (-2 : Int32) h1) ∧
  (¬ x2 = 0 → ((i3 < (1 : Int32) → P (-2 : Int32) h1) ∧
    (¬ i3 < (1 : Int32) → ((i3 < i1 → CI M_X4_hitsOfStep d [.int i1, .int i2, .int i3] h1 (fun x4 h3 => P x4 h3)) ∧
      (¬ i3 < i1 → P (-2 : Int32) h1)))))))) : CI M_X4_hits (d + 1) [.ref r0, .int i1, .int i2, .int i3] h P := by
  refine ⟨⟨r0, rfl, ho⟩, x_enter (by decide) (Nat.le_of_ble_eq_true rfl) ?_⟩
  show X (KM (some .int) (fun r h' => ∃ x, r = some (.int x) ∧ P x h')) RX4 cX4_hits 4 (d + 1) h 0 [(0, .ref r0), (1, .int i1), (2, .int i2), (3, .int i3)] []
  refine x_iload_n dX4_hits_0 rfl 1 rfl ?_
  refine x_iload_n dX4_hits_1 rfl 2 rfl ?_
  refine x_sI sl_X4_150 dX4_hits_2 (As := [.int i1, .int i2]) rfl rfl (Nat.le_of_ble_eq_true rfl) (CI.mono H (fun x2 h1 H => ?_))
  refine x_if_eq (tgt := 18) dX4_hits_5 (by decide) (fun c => ?_) (fun c => ?_)
  · replace H := H.1 c
    refine x_bipush (v := (-2 : Int32)) dX4_hits_18 (by decide) ?_
    exact x_iret dX4_hits_20 ⟨_, rfl, H⟩
  · replace H := H.2 c
    refine x_iload_n dX4_hits_8 rfl 3 rfl ?_
    refine x_iconst (v := (1 : Int32)) dX4_hits_9 (by decide) ?_
    refine x_icmp_lt (tgt := 18) dX4_hits_10 (by decide) (fun c => ?_) (fun c => ?_)
    · replace H := H.1 c
      refine x_bipush (v := (-2 : Int32)) dX4_hits_18 (by decide) ?_
      exact x_iret dX4_hits_20 ⟨_, rfl, H⟩
    · replace H := H.2 c
      refine x_iload_n dX4_hits_13 rfl 3 rfl ?_
      refine x_iload_n dX4_hits_14 rfl 1 rfl ?_
      refine x_icmp_lt (tgt := 21) dX4_hits_15 (by decide) (fun c => ?_) (fun c => ?_)
      · replace H := H.1 c
        refine x_iload_n dX4_hits_21 rfl 1 rfl ?_
        refine x_iload_n dX4_hits_22 rfl 2 rfl ?_
        refine x_iload_n dX4_hits_23 rfl 3 rfl ?_
        refine x_sI sl_X4_153 dX4_hits_24 (As := [.int i1, .int i2, .int i3]) rfl rfl (Nat.le_of_ble_eq_true rfl) (CI.mono H (fun x4 h3 H => ?_))
        exact x_iret dX4_hits_27 ⟨_, rfl, H⟩
      · replace H := H.2 c
        refine x_bipush (v := (-2 : Int32)) dX4_hits_18 (by decide) ?_
        exact x_iret dX4_hits_20 ⟨_, rfl, H⟩
set_option maxRecDepth 20000 in
theorem e_X4_even {d : Nat} {P : Int32 → Hp → Prop} {h : Hp} {r0 : Nat} {i1 : Int32} {i2 : Int32} (ho : r0 < 47 ∧ ∃ fs, h r0 = .inr (4, fs)) (H : CI M_X4_isSet d [.int i1, .int i2] h (fun x2 h1 => ((¬ x2 = 0 → CI M_X4_evenHits d [.int i1, .int i2] h1 (fun x4 h3 => P x4 h3)) ∧
  (x2 = 0 → P (-2 : Int32) h1)))) : CI M_X4_even (d + 1) [.ref r0, .int i1, .int i2] h P := by
  refine ⟨⟨r0, rfl, ho⟩, x_enter (by decide) (Nat.le_of_ble_eq_true rfl) ?_⟩
  show X (KM (some .int) (fun r h' => ∃ x, r = some (.int x) ∧ P x h')) RX4 cX4_even 3 (d + 1) h 0 [(0, .ref r0), (1, .int i1), (2, .int i2)] []
  refine x_iload_n dX4_even_0 rfl 1 rfl ?_
  refine x_iload_n dX4_even_1 rfl 2 rfl ?_
  refine x_sI sl_X4_150 dX4_even_2 (As := [.int i1, .int i2]) rfl rfl (Nat.le_of_ble_eq_true rfl) (CI.mono H (fun x2 h1 H => ?_))
  refine x_if_ne (tgt := 11) dX4_even_5 (by decide) (fun c => ?_) (fun c => ?_)
  · replace H := H.1 c
    refine x_iload_n dX4_even_11 rfl 1 rfl ?_
    refine x_iload_n dX4_even_12 rfl 2 rfl ?_
    refine x_sI sl_X4_157 dX4_even_13 (As := [.int i1, .int i2]) rfl rfl (Nat.le_of_ble_eq_true rfl) (CI.mono H (fun x4 h3 H => ?_))
    exact x_iret dX4_even_16 ⟨_, rfl, H⟩
  · replace H := H.2 c
    refine x_bipush (v := (-2 : Int32)) dX4_even_8 (by decide) ?_
    exact x_iret dX4_even_10 ⟨_, rfl, H⟩
set_option maxRecDepth 20000 in
theorem e_X4_welch {d : Nat} {P : Int32 → Hp → Prop} {h : Hp} {r0 : Nat} {i1 : Int32} {i2 : Int32} (ho : r0 < 47 ∧ ∃ fs, h r0 = .inr (4, fs)) (H : CI M_X4_isRound d [.int i1] h (fun x2 h1 => ((x2 = 0 → P (-2 : Int32) h1) ∧
  (¬ x2 = 0 → ((i2 < (1 : Int32) → P (-2 : Int32) h1) ∧
    (¬ i2 < (1 : Int32) → ((i2 ≤ i1 → ¬ (i2 * (i1 - (1 : Int32))) = 0 ∧ (P (((i1 - i2) * (1000000 : Int32)) / (i2 * (i1 - (1 : Int32)))) h1)) ∧
      (¬ i2 ≤ i1 → P (-2 : Int32) h1)))))))) : CI M_X4_welch (d + 1) [.ref r0, .int i1, .int i2] h P := by
  refine ⟨⟨r0, rfl, ho⟩, x_enter (by decide) (Nat.le_of_ble_eq_true rfl) ?_⟩
  show X (KM (some .int) (fun r h' => ∃ x, r = some (.int x) ∧ P x h')) RX4 cX4_welch 3 (d + 1) h 0 [(0, .ref r0), (1, .int i1), (2, .int i2)] []
  refine x_iload_n dX4_welch_0 rfl 1 rfl ?_
  refine x_sI sl_X4_160 dX4_welch_1 (As := [.int i1]) rfl rfl (Nat.le_of_ble_eq_true rfl) (CI.mono H (fun x2 h1 H => ?_))
  refine x_if_eq (tgt := 17) dX4_welch_4 (by decide) (fun c => ?_) (fun c => ?_)
  · replace H := H.1 c
    refine x_bipush (v := (-2 : Int32)) dX4_welch_17 (by decide) ?_
    exact x_iret dX4_welch_19 ⟨_, rfl, H⟩
  · replace H := H.2 c
    refine x_iload_n dX4_welch_7 rfl 2 rfl ?_
    refine x_iconst (v := (1 : Int32)) dX4_welch_8 (by decide) ?_
    refine x_icmp_lt (tgt := 17) dX4_welch_9 (by decide) (fun c => ?_) (fun c => ?_)
    · replace H := H.1 c
      refine x_bipush (v := (-2 : Int32)) dX4_welch_17 (by decide) ?_
      exact x_iret dX4_welch_19 ⟨_, rfl, H⟩
    · replace H := H.2 c
      refine x_iload_n dX4_welch_12 rfl 2 rfl ?_
      refine x_iload_n dX4_welch_13 rfl 1 rfl ?_
      refine x_icmp_le (tgt := 20) dX4_welch_14 (by decide) (fun c => ?_) (fun c => ?_)
      · replace H := H.1 c
        refine x_iload_n dX4_welch_20 rfl 1 rfl ?_
        refine x_iload_n dX4_welch_21 rfl 2 rfl ?_
        refine x_isub dX4_welch_22 ?_
        refine x_ldc (v := (1000000 : Int32)) (lw_gm (i := 437) (by decide +kernel) rfl) dX4_welch_23 ?_
        refine x_imul dX4_welch_25 ?_
        refine x_iload_n dX4_welch_26 rfl 2 rfl ?_
        refine x_iload_n dX4_welch_27 rfl 1 rfl ?_
        refine x_iconst (v := (1 : Int32)) dX4_welch_28 (by decide) ?_
        refine x_isub dX4_welch_29 ?_
        refine x_imul dX4_welch_30 ?_
        obtain ⟨hne, H⟩ := H
        refine x_idiv dX4_welch_31 hne ?_
        exact x_iret dX4_welch_32 ⟨_, rfl, H⟩
      · replace H := H.2 c
        refine x_bipush (v := (-2 : Int32)) dX4_welch_17 (by decide) ?_
        exact x_iret dX4_welch_19 ⟨_, rfl, H⟩
def L_X4_multipliers_22 (d : Nat) (P : Int32 → Hp → Prop) (h : Hp) (i1 : Int32) (i2 : Int32) (i3 : Int32) (i4 : Int32) (i5 : Int32) : Prop := X (KM (some .int) (fun r h' => ∃ x, r = some (.int x) ∧ P x h')) RX4 cX4_multipliers 7 (d + 1) h 22 [(1, .int i1), (2, .int i2), (3, .int i3), (4, .int i4), (5, .int i5)] []
set_option maxRecDepth 20000 in
theorem e_X4_multipliers {d : Nat} {P : Int32 → Hp → Prop} {h : Hp} {r0 : Nat} {i1 : Int32} {i2 : Int32} (ho : r0 < 47 ∧ ∃ fs, h r0 = .inr (4, fs)) (H : CI M_X4_isSet d [.int i1, .int i2] h (fun x2 h1 => ((¬ x2 = 0 → CI M_X4_allOfRound d [.int i1] h1 (fun x4 h3 => L_X4_multipliers_22 d P h3 i1 i2 x4 (0 : Int32) (1 : Int32))) ∧
  (x2 = 0 → P (-2 : Int32) h1)))) : CI M_X4_multipliers (d + 1) [.ref r0, .int i1, .int i2] h P := by
  refine ⟨⟨r0, rfl, ho⟩, x_enter (by decide) (Nat.le_of_ble_eq_true rfl) ?_⟩
  show X (KM (some .int) (fun r h' => ∃ x, r = some (.int x) ∧ P x h')) RX4 cX4_multipliers 7 (d + 1) h 0 [(0, .ref r0), (1, .int i1), (2, .int i2)] []
  refine x_iload_n dX4_multipliers_0 rfl 1 rfl ?_
  refine x_iload_n dX4_multipliers_1 rfl 2 rfl ?_
  refine x_sI sl_X4_150 dX4_multipliers_2 (As := [.int i1, .int i2]) rfl rfl (Nat.le_of_ble_eq_true rfl) (CI.mono H (fun x2 h1 H => ?_))
  refine x_if_ne (tgt := 11) dX4_multipliers_5 (by decide) (fun c => ?_) (fun c => ?_)
  · replace H := H.1 c
    refine x_iload_n dX4_multipliers_11 rfl 1 rfl ?_
    refine x_sI sl_X4_164 dX4_multipliers_12 (As := [.int i1]) rfl rfl (Nat.le_of_ble_eq_true rfl) (CI.mono H (fun x4 h3 H => ?_))
    refine x_istore_n dX4_multipliers_15 rfl (by decide) (lv' := [(3, .int x4), (0, .ref r0), (1, .int i1), (2, .int i2)]) rfl ?_
    refine x_iconst (v := (0 : Int32)) dX4_multipliers_16 (by decide) ?_
    refine x_istore dX4_multipliers_17 (by decide) (lv' := [(4, .int (0 : Int32)), (3, .int x4), (0, .ref r0), (1, .int i1), (2, .int i2)]) rfl ?_
    refine x_iconst (v := (1 : Int32)) dX4_multipliers_19 (by decide) ?_
    refine x_istore dX4_multipliers_20 (by decide) (lv' := [(5, .int (1 : Int32)), (4, .int (0 : Int32)), (3, .int x4), (0, .ref r0), (1, .int i1), (2, .int i2)]) rfl ?_
    refine x_perm [4, 5, 2, 1, 0] rfl ?_
    exact H
  · replace H := H.2 c
    refine x_bipush (v := (-2 : Int32)) dX4_multipliers_8 (by decide) ?_
    exact x_iret dX4_multipliers_10 ⟨_, rfl, H⟩
set_option maxRecDepth 20000 in
theorem r_X4_multipliers_22 {d : Nat} {P : Int32 → Hp → Prop} {h : Hp} {i1 : Int32} {i2 : Int32} {i3 : Int32} {i4 : Int32} {i5 : Int32} (H : ((i1 ≤ i5 → P i4 h) ∧
  (¬ i1 ≤ i5 → CI M_X4_multiplied d [.int i1, .int i3, .int i5] h (fun x2 h1 => ((¬ x2 = i3 → (((0 : Int32) = 0 → L_X4_multipliers_22 d P h1 i1 i2 i3 i4 (i5 + (1 : Int32))) ∧
      (¬ (0 : Int32) = 0 → CI M_X4_multiplied d [.int i1, .int i2, .int i5] h1 (fun x4 h3 => CI M_X4_isMovedRound d [.int i1, .int i2, .int x4] h3 (fun x6 h5 => ((x6 = 0 → L_X4_multipliers_22 d P h5 i1 i2 i3 i4 (i5 + (1 : Int32))) ∧
        (¬ x6 = 0 → L_X4_multipliers_22 d P h5 i1 i2 i3 (i4 + (1 : Int32)) (i5 + (1 : Int32))))))))) ∧
    (x2 = i3 → (((1 : Int32) = 0 → L_X4_multipliers_22 d P h1 i1 i2 i3 i4 (i5 + (1 : Int32))) ∧
      (¬ (1 : Int32) = 0 → CI M_X4_multiplied d [.int i1, .int i2, .int i5] h1 (fun x8 h7 => CI M_X4_isMovedRound d [.int i1, .int i2, .int x8] h7 (fun x10 h9 => ((x10 = 0 → L_X4_multipliers_22 d P h9 i1 i2 i3 i4 (i5 + (1 : Int32))) ∧
        (¬ x10 = 0 → L_X4_multipliers_22 d P h9 i1 i2 i3 (i4 + (1 : Int32)) (i5 + (1 : Int32)))))))))))))) : L_X4_multipliers_22 d P h i1 i2 i3 i4 i5 := by
  show X (KM (some .int) (fun r h' => ∃ x, r = some (.int x) ∧ P x h')) RX4 cX4_multipliers 7 (d + 1) h 22 [(1, .int i1), (2, .int i2), (3, .int i3), (4, .int i4), (5, .int i5)] []
  refine x_iload dX4_multipliers_22 4 rfl ?_
  refine x_iload_n dX4_multipliers_24 rfl 0 rfl ?_
  refine x_icmp_ge (tgt := 75) dX4_multipliers_25 (by decide) (fun c => ?_) (fun c => ?_)
  · replace H := H.1 c
    refine x_iload dX4_multipliers_75 3 rfl ?_
    exact x_iret dX4_multipliers_77 ⟨_, rfl, H⟩
  · replace H := H.2 c
    refine x_iload_n dX4_multipliers_28 rfl 0 rfl ?_
    refine x_iload_n dX4_multipliers_29 rfl 2 rfl ?_
    refine x_iload dX4_multipliers_30 4 rfl ?_
    refine x_sI sl_X4_167 dX4_multipliers_32 (As := [.int i1, .int i3, .int i5]) rfl rfl (Nat.le_of_ble_eq_true rfl) (CI.mono H (fun x2 h1 H => ?_))
    refine x_iload_n dX4_multipliers_35 rfl 2 rfl ?_
    refine x_icmp_ne (tgt := 43) dX4_multipliers_36 (by decide) (fun c => ?_) (fun c => ?_)
    · replace H := H.1 c
      refine x_iconst (v := (0 : Int32)) dX4_multipliers_43 (by decide) ?_
      refine x_istore dX4_multipliers_44 (by decide) (lv' := [(6, .int (0 : Int32)), (1, .int i1), (2, .int i2), (3, .int i3), (4, .int i4), (5, .int i5)]) rfl ?_
      refine x_iload dX4_multipliers_46 0 rfl ?_
      refine x_if_eq (tgt := 69) dX4_multipliers_48 (by decide) (fun c => ?_) (fun c => ?_)
      · replace H := H.1 c
        refine x_iinc (q := 5) (v := (i5 + (1 : Int32))) dX4_multipliers_69 rfl rfl (by decide) (lv' := [(5, .int (i5 + (1 : Int32))), (6, .int (0 : Int32)), (1, .int i1), (2, .int i2), (3, .int i3), (4, .int i4)]) rfl ?_
        refine x_goto (tgt := 22) dX4_multipliers_72 (by decide) ?_
        refine x_perm [2, 3, 4, 5, 0] rfl ?_
        exact H
      · replace H := H.2 c
        refine x_iload_n dX4_multipliers_51 rfl 1 rfl ?_
        refine x_iload_n dX4_multipliers_52 rfl 2 rfl ?_
        refine x_iload_n dX4_multipliers_53 rfl 1 rfl ?_
        refine x_iload_n dX4_multipliers_54 rfl 2 rfl ?_
        refine x_iload dX4_multipliers_55 5 rfl ?_
        refine x_sI sl_X4_167 dX4_multipliers_57 (As := [.int i1, .int i2, .int i5]) rfl rfl (Nat.le_of_ble_eq_true rfl) (CI.mono H (fun x4 h3 H => ?_))
        refine x_sI sl_X4_170 dX4_multipliers_60 (As := [.int i1, .int i2, .int x4]) rfl rfl (Nat.le_of_ble_eq_true rfl) (CI.mono H (fun x6 h5 H => ?_))
        refine x_if_eq (tgt := 69) dX4_multipliers_63 (by decide) (fun c => ?_) (fun c => ?_)
        · replace H := H.1 c
          refine x_iinc (q := 5) (v := (i5 + (1 : Int32))) dX4_multipliers_69 rfl rfl (by decide) (lv' := [(5, .int (i5 + (1 : Int32))), (6, .int (0 : Int32)), (1, .int i1), (2, .int i2), (3, .int i3), (4, .int i4)]) rfl ?_
          refine x_goto (tgt := 22) dX4_multipliers_72 (by decide) ?_
          refine x_perm [2, 3, 4, 5, 0] rfl ?_
          exact H
        · replace H := H.2 c
          refine x_iinc (q := 4) (v := (i4 + (1 : Int32))) dX4_multipliers_66 rfl rfl (by decide) (lv' := [(4, .int (i4 + (1 : Int32))), (6, .int (0 : Int32)), (1, .int i1), (2, .int i2), (3, .int i3), (5, .int i5)]) rfl ?_
          refine x_iinc (q := 5) (v := (i5 + (1 : Int32))) dX4_multipliers_69 rfl rfl (by decide) (lv' := [(5, .int (i5 + (1 : Int32))), (4, .int (i4 + (1 : Int32))), (6, .int (0 : Int32)), (1, .int i1), (2, .int i2), (3, .int i3)]) rfl ?_
          refine x_goto (tgt := 22) dX4_multipliers_72 (by decide) ?_
          refine x_perm [3, 4, 5, 1, 0] rfl ?_
          exact H
    · replace H := H.2 c
      refine x_iconst (v := (1 : Int32)) dX4_multipliers_39 (by decide) ?_
      refine x_goto (tgt := 44) dX4_multipliers_40 (by decide) ?_
      refine x_istore dX4_multipliers_44 (by decide) (lv' := [(6, .int (1 : Int32)), (1, .int i1), (2, .int i2), (3, .int i3), (4, .int i4), (5, .int i5)]) rfl ?_
      refine x_iload dX4_multipliers_46 0 rfl ?_
      refine x_if_eq (tgt := 69) dX4_multipliers_48 (by decide) (fun c => ?_) (fun c => ?_)
      · replace H := H.1 c
        refine x_iinc (q := 5) (v := (i5 + (1 : Int32))) dX4_multipliers_69 rfl rfl (by decide) (lv' := [(5, .int (i5 + (1 : Int32))), (6, .int (1 : Int32)), (1, .int i1), (2, .int i2), (3, .int i3), (4, .int i4)]) rfl ?_
        refine x_goto (tgt := 22) dX4_multipliers_72 (by decide) ?_
        refine x_perm [2, 3, 4, 5, 0] rfl ?_
        exact H
      · replace H := H.2 c
        refine x_iload_n dX4_multipliers_51 rfl 1 rfl ?_
        refine x_iload_n dX4_multipliers_52 rfl 2 rfl ?_
        refine x_iload_n dX4_multipliers_53 rfl 1 rfl ?_
        refine x_iload_n dX4_multipliers_54 rfl 2 rfl ?_
        refine x_iload dX4_multipliers_55 5 rfl ?_
        refine x_sI sl_X4_167 dX4_multipliers_57 (As := [.int i1, .int i2, .int i5]) rfl rfl (Nat.le_of_ble_eq_true rfl) (CI.mono H (fun x8 h7 H => ?_))
        refine x_sI sl_X4_170 dX4_multipliers_60 (As := [.int i1, .int i2, .int x8]) rfl rfl (Nat.le_of_ble_eq_true rfl) (CI.mono H (fun x10 h9 H => ?_))
        refine x_if_eq (tgt := 69) dX4_multipliers_63 (by decide) (fun c => ?_) (fun c => ?_)
        · replace H := H.1 c
          refine x_iinc (q := 5) (v := (i5 + (1 : Int32))) dX4_multipliers_69 rfl rfl (by decide) (lv' := [(5, .int (i5 + (1 : Int32))), (6, .int (1 : Int32)), (1, .int i1), (2, .int i2), (3, .int i3), (4, .int i4)]) rfl ?_
          refine x_goto (tgt := 22) dX4_multipliers_72 (by decide) ?_
          refine x_perm [2, 3, 4, 5, 0] rfl ?_
          exact H
        · replace H := H.2 c
          refine x_iinc (q := 4) (v := (i4 + (1 : Int32))) dX4_multipliers_66 rfl rfl (by decide) (lv' := [(4, .int (i4 + (1 : Int32))), (6, .int (1 : Int32)), (1, .int i1), (2, .int i2), (3, .int i3), (5, .int i5)]) rfl ?_
          refine x_iinc (q := 5) (v := (i5 + (1 : Int32))) dX4_multipliers_69 rfl rfl (by decide) (lv' := [(5, .int (i5 + (1 : Int32))), (4, .int (i4 + (1 : Int32))), (6, .int (1 : Int32)), (1, .int i1), (2, .int i2), (3, .int i3)]) rfl ?_
          refine x_goto (tgt := 22) dX4_multipliers_72 (by decide) ?_
          refine x_perm [3, 4, 5, 1, 0] rfl ?_
          exact H
def L_X4_find_42 (d : Nat) (P : Int32 → Hp → Prop) (h : Hp) (i1 : Int32) (i2 : Int32) (i3 : Int32) : Prop := X (KM (some .int) (fun r h' => ∃ x, r = some (.int x) ∧ P x h')) RX4 cX4_find 4 (d + 1) h 42 [(1, .int i1), (2, .int i2), (3, .int i3)] []
set_option maxRecDepth 20000 in
theorem e_X4_find {d : Nat} {P : Int32 → Hp → Prop} {h : Hp} {r0 : Nat} {i1 : Int32} {i2 : Int32} (ho : r0 < 47 ∧ ∃ fs, h r0 = .inr (4, fs)) (H : CI M_X4_isRound d [.int i1] h (fun x2 h1 => ((x2 = 0 → P (-2 : Int32) h1) ∧
  (¬ x2 = 0 → (((15 : Int32) < i1 → P (-2 : Int32) h1) ∧
    (¬ (15 : Int32) < i1 → ((i2 < (1 : Int32) → P (-2 : Int32) h1) ∧
      (¬ i2 < (1 : Int32) → ((i2 ≤ i1 → ¬ (i1 - (1 : Int32)) = 0 ∧ ((((irem (i2 * (i2 - (1 : Int32))) (i1 - (1 : Int32))) = 0 → L_X4_find_42 d P h1 i1 i2 (1 : Int32)) ∧
          (¬ (irem (i2 * (i2 - (1 : Int32))) (i1 - (1 : Int32))) = 0 → P (-1 : Int32) h1)))) ∧
        (¬ i2 ≤ i1 → P (-2 : Int32) h1)))))))))) : CI M_X4_find (d + 1) [.ref r0, .int i1, .int i2] h P := by
  refine ⟨⟨r0, rfl, ho⟩, x_enter (by decide) (Nat.le_of_ble_eq_true rfl) ?_⟩
  show X (KM (some .int) (fun r h' => ∃ x, r = some (.int x) ∧ P x h')) RX4 cX4_find 4 (d + 1) h 0 [(0, .ref r0), (1, .int i1), (2, .int i2)] []
  refine x_iload_n dX4_find_0 rfl 1 rfl ?_
  refine x_sI sl_X4_160 dX4_find_1 (As := [.int i1]) rfl rfl (Nat.le_of_ble_eq_true rfl) (CI.mono H (fun x2 h1 H => ?_))
  refine x_if_eq (tgt := 23) dX4_find_4 (by decide) (fun c => ?_) (fun c => ?_)
  · replace H := H.1 c
    refine x_bipush (v := (-2 : Int32)) dX4_find_23 (by decide) ?_
    exact x_iret dX4_find_25 ⟨_, rfl, H⟩
  · replace H := H.2 c
    refine x_iload_n dX4_find_7 rfl 1 rfl ?_
    refine x_bipush (v := (15 : Int32)) dX4_find_8 (by decide) ?_
    refine x_icmp_gt (tgt := 23) dX4_find_10 (by decide) (fun c => ?_) (fun c => ?_)
    · replace H := H.1 c
      refine x_bipush (v := (-2 : Int32)) dX4_find_23 (by decide) ?_
      exact x_iret dX4_find_25 ⟨_, rfl, H⟩
    · replace H := H.2 c
      refine x_iload_n dX4_find_13 rfl 2 rfl ?_
      refine x_iconst (v := (1 : Int32)) dX4_find_14 (by decide) ?_
      refine x_icmp_lt (tgt := 23) dX4_find_15 (by decide) (fun c => ?_) (fun c => ?_)
      · replace H := H.1 c
        refine x_bipush (v := (-2 : Int32)) dX4_find_23 (by decide) ?_
        exact x_iret dX4_find_25 ⟨_, rfl, H⟩
      · replace H := H.2 c
        refine x_iload_n dX4_find_18 rfl 2 rfl ?_
        refine x_iload_n dX4_find_19 rfl 1 rfl ?_
        refine x_icmp_le (tgt := 26) dX4_find_20 (by decide) (fun c => ?_) (fun c => ?_)
        · replace H := H.1 c
          refine x_iload_n dX4_find_26 rfl 2 rfl ?_
          refine x_iload_n dX4_find_27 rfl 2 rfl ?_
          refine x_iconst (v := (1 : Int32)) dX4_find_28 (by decide) ?_
          refine x_isub dX4_find_29 ?_
          refine x_imul dX4_find_30 ?_
          refine x_iload_n dX4_find_31 rfl 1 rfl ?_
          refine x_iconst (v := (1 : Int32)) dX4_find_32 (by decide) ?_
          refine x_isub dX4_find_33 ?_
          obtain ⟨hne, H⟩ := H
          refine x_irem dX4_find_34 hne ?_
          refine x_if_eq (tgt := 40) dX4_find_35 (by decide) (fun c => ?_) (fun c => ?_)
          · replace H := H.1 c
            refine x_iconst (v := (1 : Int32)) dX4_find_40 (by decide) ?_
            refine x_istore_n dX4_find_41 rfl (by decide) (lv' := [(3, .int (1 : Int32)), (0, .ref r0), (1, .int i1), (2, .int i2)]) rfl ?_
            refine x_perm [2, 3, 0] rfl ?_
            exact H
          · replace H := H.2 c
            refine x_iconst (v := (-1 : Int32)) dX4_find_38 (by decide) ?_
            exact x_iret dX4_find_39 ⟨_, rfl, H⟩
        · replace H := H.2 c
          refine x_bipush (v := (-2 : Int32)) dX4_find_23 (by decide) ?_
          exact x_iret dX4_find_25 ⟨_, rfl, H⟩
set_option maxRecDepth 20000 in
theorem r_X4_find_42 {d : Nat} {P : Int32 → Hp → Prop} {h : Hp} {i1 : Int32} {i2 : Int32} {i3 : Int32} (H : (((ishl (1 : Int32) i1) ≤ i3 → P (-1 : Int32) h) ∧
  (¬ (ishl (1 : Int32) i1) ≤ i3 → CI M_J6_bitCount d [.int i3] h (fun x2 h1 => ((¬ x2 = i2 → L_X4_find_42 d P h1 i1 i2 (i3 + (2 : Int32))) ∧
    (x2 = i2 → CI M_X4_evenHits d [.int i1, .int i3] h1 (fun x4 h3 => ((x4 = (-1 : Int32) → L_X4_find_42 d P h3 i1 i2 (i3 + (2 : Int32))) ∧
      (¬ x4 = (-1 : Int32) → P i3 h3))))))))) : L_X4_find_42 d P h i1 i2 i3 := by
  show X (KM (some .int) (fun r h' => ∃ x, r = some (.int x) ∧ P x h')) RX4 cX4_find 4 (d + 1) h 42 [(1, .int i1), (2, .int i2), (3, .int i3)] []
  refine x_iload_n dX4_find_42 rfl 2 rfl ?_
  refine x_iconst (v := (1 : Int32)) dX4_find_43 (by decide) ?_
  refine x_iload_n dX4_find_44 rfl 0 rfl ?_
  refine x_ishl dX4_find_45 ?_
  refine x_icmp_ge (tgt := 74) dX4_find_46 (by decide) (fun c => ?_) (fun c => ?_)
  · replace H := H.1 c
    refine x_iconst (v := (-1 : Int32)) dX4_find_74 (by decide) ?_
    exact x_iret dX4_find_75 ⟨_, rfl, H⟩
  · replace H := H.2 c
    refine x_iload_n dX4_find_49 rfl 2 rfl ?_
    refine x_sI sl_X4_80 dX4_find_50 (As := [.int i3]) rfl rfl (Nat.le_of_ble_eq_true rfl) (CI.mono H (fun x2 h1 H => ?_))
    refine x_iload_n dX4_find_53 rfl 1 rfl ?_
    refine x_icmp_ne (tgt := 68) dX4_find_54 (by decide) (fun c => ?_) (fun c => ?_)
    · replace H := H.1 c
      refine x_iinc (q := 2) (v := (i3 + (2 : Int32))) dX4_find_68 rfl rfl (by decide) (lv' := [(3, .int (i3 + (2 : Int32))), (1, .int i1), (2, .int i2)]) rfl ?_
      refine x_goto (tgt := 42) dX4_find_71 (by decide) ?_
      refine x_perm [1, 2, 0] rfl ?_
      exact H
    · replace H := H.2 c
      refine x_iload_n dX4_find_57 rfl 0 rfl ?_
      refine x_iload_n dX4_find_58 rfl 2 rfl ?_
      refine x_sI sl_X4_157 dX4_find_59 (As := [.int i1, .int i3]) rfl rfl (Nat.le_of_ble_eq_true rfl) (CI.mono H (fun x4 h3 H => ?_))
      refine x_iconst (v := (-1 : Int32)) dX4_find_62 (by decide) ?_
      refine x_icmp_eq (tgt := 68) dX4_find_63 (by decide) (fun c => ?_) (fun c => ?_)
      · replace H := H.1 c
        refine x_iinc (q := 2) (v := (i3 + (2 : Int32))) dX4_find_68 rfl rfl (by decide) (lv' := [(3, .int (i3 + (2 : Int32))), (1, .int i1), (2, .int i2)]) rfl ?_
        refine x_goto (tgt := 42) dX4_find_71 (by decide) ?_
        refine x_perm [1, 2, 0] rfl ?_
        exact H
      · replace H := H.2 c
        refine x_iload_n dX4_find_66 rfl 2 rfl ?_
        exact x_iret dX4_find_67 ⟨_, rfl, H⟩
set_option maxRecDepth 20000 in
theorem e_X4_isRound {d : Nat} {P : Int32 → Hp → Prop} {h : Hp} {i0 : Int32} (H : ((i0 < (2 : Int32) → P (0 : Int32) h) ∧
  (¬ i0 < (2 : Int32) → (((31 : Int32) < i0 → P (0 : Int32) h) ∧
    (¬ (31 : Int32) < i0 → P (1 : Int32) h))))) : CI M_X4_isRound (d + 1) [.int i0] h P := by
  refine ⟨trivial, x_enter (by decide) (Nat.le_of_ble_eq_true rfl) ?_⟩
  show X (KM (some .boolean) (fun r h' => ∃ x, r = some (.int x) ∧ P x h')) RX4 cX4_isRound 1 (d + 1) h 0 [(0, .int i0)] []
  refine x_iload_n dX4_isRound_0 rfl 0 rfl ?_
  refine x_iconst (v := (2 : Int32)) dX4_isRound_1 (by decide) ?_
  refine x_icmp_lt (tgt := 15) dX4_isRound_2 (by decide) (fun c => ?_) (fun c => ?_)
  · replace H := H.1 c
    refine x_iconst (v := (0 : Int32)) dX4_isRound_15 (by decide) ?_
    exact x_zret dX4_isRound_16 (by decide) ⟨_, rfl, H⟩
  · replace H := H.2 c
    refine x_iload_n dX4_isRound_5 rfl 0 rfl ?_
    refine x_bipush (v := (31 : Int32)) dX4_isRound_6 (by decide) ?_
    refine x_icmp_gt (tgt := 15) dX4_isRound_8 (by decide) (fun c => ?_) (fun c => ?_)
    · replace H := H.1 c
      refine x_iconst (v := (0 : Int32)) dX4_isRound_15 (by decide) ?_
      exact x_zret dX4_isRound_16 (by decide) ⟨_, rfl, H⟩
    · replace H := H.2 c
      refine x_iconst (v := (1 : Int32)) dX4_isRound_11 (by decide) ?_
      refine x_goto (tgt := 16) dX4_isRound_12 (by decide) ?_
      exact x_zret dX4_isRound_16 (by decide) ⟨_, rfl, H⟩
set_option maxRecDepth 20000 in
theorem e_X4_isSet {d : Nat} {P : Int32 → Hp → Prop} {h : Hp} {i0 : Int32} {i1 : Int32} (H : CI M_X4_isRound d [.int i0] h (fun x2 h1 => ((x2 = 0 → P (0 : Int32) h1) ∧
  (¬ x2 = 0 → ((¬ (iushr i1 i0) = 0 → P (0 : Int32) h1) ∧
    ((iushr i1 i0) = 0 → P (1 : Int32) h1)))))) : CI M_X4_isSet (d + 1) [.int i0, .int i1] h P := by
  refine ⟨trivial, x_enter (by decide) (Nat.le_of_ble_eq_true rfl) ?_⟩
  show X (KM (some .boolean) (fun r h' => ∃ x, r = some (.int x) ∧ P x h')) RX4 cX4_isSet 2 (d + 1) h 0 [(0, .int i0), (1, .int i1)] []
  refine x_iload_n dX4_isSet_0 rfl 0 rfl ?_
  refine x_sI sl_X4_160 dX4_isSet_1 (As := [.int i0]) rfl rfl (Nat.le_of_ble_eq_true rfl) (CI.mono H (fun x2 h1 H => ?_))
  refine x_if_eq (tgt := 17) dX4_isSet_4 (by decide) (fun c => ?_) (fun c => ?_)
  · replace H := H.1 c
    refine x_iconst (v := (0 : Int32)) dX4_isSet_17 (by decide) ?_
    exact x_zret dX4_isSet_18 (by decide) ⟨_, rfl, H⟩
  · replace H := H.2 c
    refine x_iload_n dX4_isSet_7 rfl 1 rfl ?_
    refine x_iload_n dX4_isSet_8 rfl 0 rfl ?_
    refine x_iushr dX4_isSet_9 ?_
    refine x_if_ne (tgt := 17) dX4_isSet_10 (by decide) (fun c => ?_) (fun c => ?_)
    · replace H := H.1 c
      refine x_iconst (v := (0 : Int32)) dX4_isSet_17 (by decide) ?_
      exact x_zret dX4_isSet_18 (by decide) ⟨_, rfl, H⟩
    · replace H := H.2 c
      refine x_iconst (v := (1 : Int32)) dX4_isSet_13 (by decide) ?_
      refine x_goto (tgt := 18) dX4_isSet_14 (by decide) ?_
      exact x_zret dX4_isSet_18 (by decide) ⟨_, rfl, H⟩
set_option maxRecDepth 20000 in
theorem e_X4_allOfRound {d : Nat} {P : Int32 → Hp → Prop} {h : Hp} {i0 : Int32} (H : P (iushr (-1 : Int32) ((32 : Int32) - i0)) h) : CI M_X4_allOfRound (d + 1) [.int i0] h P := by
  refine ⟨trivial, x_enter (by decide) (Nat.le_of_ble_eq_true rfl) ?_⟩
  show X (KM (some .int) (fun r h' => ∃ x, r = some (.int x) ∧ P x h')) RX4 cX4_allOfRound 1 (d + 1) h 0 [(0, .int i0)] []
  refine x_iconst (v := (-1 : Int32)) dX4_allOfRound_0 (by decide) ?_
  refine x_bipush (v := (32 : Int32)) dX4_allOfRound_1 (by decide) ?_
  refine x_iload_n dX4_allOfRound_3 rfl 0 rfl ?_
  refine x_isub dX4_allOfRound_4 ?_
  refine x_iushr dX4_allOfRound_5 ?_
  exact x_iret dX4_allOfRound_6 ⟨_, rfl, H⟩
set_option maxRecDepth 20000 in
theorem e_X4_movedRound {d : Nat} {P : Int32 → Hp → Prop} {h : Hp} {i0 : Int32} {i1 : Int32} {i2 : Int32} (H : CI M_X4_allOfRound d [.int i0] h (fun x2 h1 => P (((ishl i1 i2) ||| (iushr i1 (i0 - i2))) &&& x2) h1)) : CI M_X4_movedRound (d + 1) [.int i0, .int i1, .int i2] h P := by
  refine ⟨trivial, x_enter (by decide) (Nat.le_of_ble_eq_true rfl) ?_⟩
  show X (KM (some .int) (fun r h' => ∃ x, r = some (.int x) ∧ P x h')) RX4 cX4_movedRound 3 (d + 1) h 0 [(0, .int i0), (1, .int i1), (2, .int i2)] []
  refine x_iload_n dX4_movedRound_0 rfl 1 rfl ?_
  refine x_iload_n dX4_movedRound_1 rfl 2 rfl ?_
  refine x_ishl dX4_movedRound_2 ?_
  refine x_iload_n dX4_movedRound_3 rfl 1 rfl ?_
  refine x_iload_n dX4_movedRound_4 rfl 0 rfl ?_
  refine x_iload_n dX4_movedRound_5 rfl 2 rfl ?_
  refine x_isub dX4_movedRound_6 ?_
  refine x_iushr dX4_movedRound_7 ?_
  refine x_ior dX4_movedRound_8 ?_
  refine x_iload_n dX4_movedRound_9 rfl 0 rfl ?_
  refine x_sI sl_X4_164 dX4_movedRound_10 (As := [.int i0]) rfl rfl (Nat.le_of_ble_eq_true rfl) (CI.mono H (fun x2 h1 H => ?_))
  refine x_iand dX4_movedRound_13 ?_
  exact x_iret dX4_movedRound_14 ⟨_, rfl, H⟩
set_option maxRecDepth 20000 in
theorem e_X4_hitsOfStep {d : Nat} {P : Int32 → Hp → Prop} {h : Hp} {i0 : Int32} {i1 : Int32} {i2 : Int32} (H : CI M_X4_movedRound d [.int i0, .int i1, .int i2] h (fun x2 h1 => CI M_J6_bitCount d [.int (i1 &&& x2)] h1 (fun x4 h3 => P x4 h3))) : CI M_X4_hitsOfStep (d + 1) [.int i0, .int i1, .int i2] h P := by
  refine ⟨trivial, x_enter (by decide) (Nat.le_of_ble_eq_true rfl) ?_⟩
  show X (KM (some .int) (fun r h' => ∃ x, r = some (.int x) ∧ P x h')) RX4 cX4_hitsOfStep 3 (d + 1) h 0 [(0, .int i0), (1, .int i1), (2, .int i2)] []
  refine x_iload_n dX4_hitsOfStep_0 rfl 1 rfl ?_
  refine x_iload_n dX4_hitsOfStep_1 rfl 0 rfl ?_
  refine x_iload_n dX4_hitsOfStep_2 rfl 1 rfl ?_
  refine x_iload_n dX4_hitsOfStep_3 rfl 2 rfl ?_
  refine x_sI sl_X4_174 dX4_hitsOfStep_4 (As := [.int i0, .int i1, .int i2]) rfl rfl (Nat.le_of_ble_eq_true rfl) (CI.mono H (fun x2 h1 H => ?_))
  refine x_iand dX4_hitsOfStep_7 ?_
  refine x_sI sl_X4_80 dX4_hitsOfStep_8 (As := [.int (i1 &&& x2)]) rfl rfl (Nat.le_of_ble_eq_true rfl) (CI.mono H (fun x4 h3 H => ?_))
  exact x_iret dX4_hitsOfStep_11 ⟨_, rfl, H⟩
def L_X4_evenHits_9 (d : Nat) (P : Int32 → Hp → Prop) (h : Hp) (i0 : Int32) (i1 : Int32) (i2 : Int32) (i3 : Int32) : Prop := X (KM (some .int) (fun r h' => ∃ x, r = some (.int x) ∧ P x h')) RX4 cX4_evenHits 4 (d + 1) h 9 [(0, .int i0), (1, .int i1), (2, .int i2), (3, .int i3)] []
set_option maxRecDepth 20000 in
theorem e_X4_evenHits {d : Nat} {P : Int32 → Hp → Prop} {h : Hp} {i0 : Int32} {i1 : Int32} (H : CI M_X4_hitsOfStep d [.int i0, .int i1, .int (1 : Int32)] h (fun x2 h1 => L_X4_evenHits_9 d P h1 i0 i1 x2 (2 : Int32))) : CI M_X4_evenHits (d + 1) [.int i0, .int i1] h P := by
  refine ⟨trivial, x_enter (by decide) (Nat.le_of_ble_eq_true rfl) ?_⟩
  show X (KM (some .int) (fun r h' => ∃ x, r = some (.int x) ∧ P x h')) RX4 cX4_evenHits 4 (d + 1) h 0 [(0, .int i0), (1, .int i1)] []
  refine x_iload_n dX4_evenHits_0 rfl 0 rfl ?_
  refine x_iload_n dX4_evenHits_1 rfl 1 rfl ?_
  refine x_iconst (v := (1 : Int32)) dX4_evenHits_2 (by decide) ?_
  refine x_sI sl_X4_153 dX4_evenHits_3 (As := [.int i0, .int i1, .int (1 : Int32)]) rfl rfl (Nat.le_of_ble_eq_true rfl) (CI.mono H (fun x2 h1 H => ?_))
  refine x_istore_n dX4_evenHits_6 rfl (by decide) (lv' := [(2, .int x2), (0, .int i0), (1, .int i1)]) rfl ?_
  refine x_iconst (v := (2 : Int32)) dX4_evenHits_7 (by decide) ?_
  refine x_istore_n dX4_evenHits_8 rfl (by decide) (lv' := [(3, .int (2 : Int32)), (2, .int x2), (0, .int i0), (1, .int i1)]) rfl ?_
  refine x_perm [2, 3, 1, 0] rfl ?_
  exact H
set_option maxRecDepth 20000 in
theorem r_X4_evenHits_9 {d : Nat} {P : Int32 → Hp → Prop} {h : Hp} {i0 : Int32} {i1 : Int32} {i2 : Int32} {i3 : Int32} (H : ((i0 ≤ i3 → P i2 h) ∧
  (¬ i0 ≤ i3 → CI M_X4_hitsOfStep d [.int i0, .int i1, .int i3] h (fun x2 h1 => ((x2 = i2 → L_X4_evenHits_9 d P h1 i0 i1 i2 (i3 + (1 : Int32))) ∧
    (¬ x2 = i2 → P (-1 : Int32) h1)))))) : L_X4_evenHits_9 d P h i0 i1 i2 i3 := by
  show X (KM (some .int) (fun r h' => ∃ x, r = some (.int x) ∧ P x h')) RX4 cX4_evenHits 4 (d + 1) h 9 [(0, .int i0), (1, .int i1), (2, .int i2), (3, .int i3)] []
  refine x_iload_n dX4_evenHits_9 rfl 3 rfl ?_
  refine x_iload_n dX4_evenHits_10 rfl 0 rfl ?_
  refine x_icmp_ge (tgt := 32) dX4_evenHits_11 (by decide) (fun c => ?_) (fun c => ?_)
  · replace H := H.1 c
    refine x_iload_n dX4_evenHits_32 rfl 2 rfl ?_
    exact x_iret dX4_evenHits_33 ⟨_, rfl, H⟩
  · replace H := H.2 c
    refine x_iload_n dX4_evenHits_14 rfl 0 rfl ?_
    refine x_iload_n dX4_evenHits_15 rfl 1 rfl ?_
    refine x_iload_n dX4_evenHits_16 rfl 3 rfl ?_
    refine x_sI sl_X4_153 dX4_evenHits_17 (As := [.int i0, .int i1, .int i3]) rfl rfl (Nat.le_of_ble_eq_true rfl) (CI.mono H (fun x2 h1 H => ?_))
    refine x_iload_n dX4_evenHits_20 rfl 2 rfl ?_
    refine x_icmp_eq (tgt := 26) dX4_evenHits_21 (by decide) (fun c => ?_) (fun c => ?_)
    · replace H := H.1 c
      refine x_iinc (q := 3) (v := (i3 + (1 : Int32))) dX4_evenHits_26 rfl rfl (by decide) (lv' := [(3, .int (i3 + (1 : Int32))), (0, .int i0), (1, .int i1), (2, .int i2)]) rfl ?_
      refine x_goto (tgt := 9) dX4_evenHits_29 (by decide) ?_
      refine x_perm [1, 2, 3, 0] rfl ?_
      exact H
    · replace H := H.2 c
      refine x_iconst (v := (-1 : Int32)) dX4_evenHits_24 (by decide) ?_
      exact x_iret dX4_evenHits_25 ⟨_, rfl, H⟩
def L_X4_multiplied_5 (d : Nat) (P : Int32 → Hp → Prop) (h : Hp) (i0 : Int32) (i1 : Int32) (i2 : Int32) (i3 : Int32) (i4 : Int32) : Prop := X (KM (some .int) (fun r h' => ∃ x, r = some (.int x) ∧ P x h')) RX4 cX4_multiplied 5 (d + 1) h 5 [(0, .int i0), (1, .int i1), (2, .int i2), (3, .int i3), (4, .int i4)] []
set_option maxRecDepth 20000 in
theorem e_X4_multiplied {d : Nat} {P : Int32 → Hp → Prop} {h : Hp} {i0 : Int32} {i1 : Int32} {i2 : Int32} (H : L_X4_multiplied_5 d P h i0 i1 i2 (0 : Int32) (0 : Int32)) : CI M_X4_multiplied (d + 1) [.int i0, .int i1, .int i2] h P := by
  refine ⟨trivial, x_enter (by decide) (Nat.le_of_ble_eq_true rfl) ?_⟩
  show X (KM (some .int) (fun r h' => ∃ x, r = some (.int x) ∧ P x h')) RX4 cX4_multiplied 5 (d + 1) h 0 [(0, .int i0), (1, .int i1), (2, .int i2)] []
  refine x_iconst (v := (0 : Int32)) dX4_multiplied_0 (by decide) ?_
  refine x_istore_n dX4_multiplied_1 rfl (by decide) (lv' := [(3, .int (0 : Int32)), (0, .int i0), (1, .int i1), (2, .int i2)]) rfl ?_
  refine x_iconst (v := (0 : Int32)) dX4_multiplied_2 (by decide) ?_
  refine x_istore dX4_multiplied_3 (by decide) (lv' := [(4, .int (0 : Int32)), (3, .int (0 : Int32)), (0, .int i0), (1, .int i1), (2, .int i2)]) rfl ?_
  refine x_perm [2, 3, 4, 1, 0] rfl ?_
  exact H
set_option maxRecDepth 20000 in
theorem r_X4_multiplied_5 {d : Nat} {P : Int32 → Hp → Prop} {h : Hp} {i0 : Int32} {i1 : Int32} {i2 : Int32} {i3 : Int32} {i4 : Int32} (H : ((i0 ≤ i4 → P i3 h) ∧
  (¬ i0 ≤ i4 → ((((iushr i1 i4) &&& (1 : Int32)) = 0 → L_X4_multiplied_5 d P h i0 i1 i2 i3 (i4 + (1 : Int32))) ∧
    (¬ ((iushr i1 i4) &&& (1 : Int32)) = 0 → ¬ i0 = 0 ∧ (L_X4_multiplied_5 d P h i0 i1 i2 (i3 ||| (ishl (1 : Int32) (irem (i2 * i4) i0))) (i4 + (1 : Int32)))))))) : L_X4_multiplied_5 d P h i0 i1 i2 i3 i4 := by
  show X (KM (some .int) (fun r h' => ∃ x, r = some (.int x) ∧ P x h')) RX4 cX4_multiplied 5 (d + 1) h 5 [(0, .int i0), (1, .int i1), (2, .int i2), (3, .int i3), (4, .int i4)] []
  refine x_iload dX4_multiplied_5 4 rfl ?_
  refine x_iload_n dX4_multiplied_7 rfl 0 rfl ?_
  refine x_icmp_ge (tgt := 37) dX4_multiplied_8 (by decide) (fun c => ?_) (fun c => ?_)
  · replace H := H.1 c
    refine x_iload_n dX4_multiplied_37 rfl 3 rfl ?_
    exact x_iret dX4_multiplied_38 ⟨_, rfl, H⟩
  · replace H := H.2 c
    refine x_iload_n dX4_multiplied_11 rfl 1 rfl ?_
    refine x_iload dX4_multiplied_12 4 rfl ?_
    refine x_iushr dX4_multiplied_14 ?_
    refine x_iconst (v := (1 : Int32)) dX4_multiplied_15 (by decide) ?_
    refine x_iand dX4_multiplied_16 ?_
    refine x_if_eq (tgt := 31) dX4_multiplied_17 (by decide) (fun c => ?_) (fun c => ?_)
    · replace H := H.1 c
      refine x_iinc (q := 4) (v := (i4 + (1 : Int32))) dX4_multiplied_31 rfl rfl (by decide) (lv' := [(4, .int (i4 + (1 : Int32))), (0, .int i0), (1, .int i1), (2, .int i2), (3, .int i3)]) rfl ?_
      refine x_goto (tgt := 5) dX4_multiplied_34 (by decide) ?_
      refine x_perm [1, 2, 3, 4, 0] rfl ?_
      exact H
    · replace H := H.2 c
      refine x_iload_n dX4_multiplied_20 rfl 3 rfl ?_
      refine x_iconst (v := (1 : Int32)) dX4_multiplied_21 (by decide) ?_
      refine x_iload_n dX4_multiplied_22 rfl 2 rfl ?_
      refine x_iload dX4_multiplied_23 4 rfl ?_
      refine x_imul dX4_multiplied_25 ?_
      refine x_iload_n dX4_multiplied_26 rfl 0 rfl ?_
      obtain ⟨hne, H⟩ := H
      refine x_irem dX4_multiplied_27 hne ?_
      refine x_ishl dX4_multiplied_28 ?_
      refine x_ior dX4_multiplied_29 ?_
      refine x_istore_n dX4_multiplied_30 rfl (by decide) (lv' := [(3, .int (i3 ||| (ishl (1 : Int32) (irem (i2 * i4) i0)))), (0, .int i0), (1, .int i1), (2, .int i2), (4, .int i4)]) rfl ?_
      refine x_iinc (q := 4) (v := (i4 + (1 : Int32))) dX4_multiplied_31 rfl rfl (by decide) (lv' := [(4, .int (i4 + (1 : Int32))), (3, .int (i3 ||| (ishl (1 : Int32) (irem (i2 * i4) i0)))), (0, .int i0), (1, .int i1), (2, .int i2)]) rfl ?_
      refine x_goto (tgt := 5) dX4_multiplied_34 (by decide) ?_
      refine x_perm [2, 3, 4, 1, 0] rfl ?_
      exact H
def L_X4_isMovedRound_2 (d : Nat) (P : Int32 → Hp → Prop) (h : Hp) (i0 : Int32) (i1 : Int32) (i2 : Int32) (i3 : Int32) : Prop := X (KM (some .boolean) (fun r h' => ∃ x, r = some (.int x) ∧ P x h')) RX4 cX4_isMovedRound 4 (d + 1) h 2 [(0, .int i0), (1, .int i1), (2, .int i2), (3, .int i3)] []
set_option maxRecDepth 20000 in
theorem e_X4_isMovedRound {d : Nat} {P : Int32 → Hp → Prop} {h : Hp} {i0 : Int32} {i1 : Int32} {i2 : Int32} (H : L_X4_isMovedRound_2 d P h i0 i1 i2 (0 : Int32)) : CI M_X4_isMovedRound (d + 1) [.int i0, .int i1, .int i2] h P := by
  refine ⟨trivial, x_enter (by decide) (Nat.le_of_ble_eq_true rfl) ?_⟩
  show X (KM (some .boolean) (fun r h' => ∃ x, r = some (.int x) ∧ P x h')) RX4 cX4_isMovedRound 4 (d + 1) h 0 [(0, .int i0), (1, .int i1), (2, .int i2)] []
  refine x_iconst (v := (0 : Int32)) dX4_isMovedRound_0 (by decide) ?_
  refine x_istore_n dX4_isMovedRound_1 rfl (by decide) (lv' := [(3, .int (0 : Int32)), (0, .int i0), (1, .int i1), (2, .int i2)]) rfl ?_
  refine x_perm [1, 2, 3, 0] rfl ?_
  exact H
set_option maxRecDepth 20000 in
theorem r_X4_isMovedRound_2 {d : Nat} {P : Int32 → Hp → Prop} {h : Hp} {i0 : Int32} {i1 : Int32} {i2 : Int32} {i3 : Int32} (H : ((i0 ≤ i3 → P (0 : Int32) h) ∧
  (¬ i0 ≤ i3 → CI M_X4_movedRound d [.int i0, .int i1, .int i3] h (fun x2 h1 => ((¬ x2 = i2 → L_X4_isMovedRound_2 d P h1 i0 i1 i2 (i3 + (1 : Int32))) ∧
    (x2 = i2 → P (1 : Int32) h1)))))) : L_X4_isMovedRound_2 d P h i0 i1 i2 i3 := by
  show X (KM (some .boolean) (fun r h' => ∃ x, r = some (.int x) ∧ P x h')) RX4 cX4_isMovedRound 4 (d + 1) h 2 [(0, .int i0), (1, .int i1), (2, .int i2), (3, .int i3)] []
  refine x_iload_n dX4_isMovedRound_2 rfl 3 rfl ?_
  refine x_iload_n dX4_isMovedRound_3 rfl 0 rfl ?_
  refine x_icmp_ge (tgt := 25) dX4_isMovedRound_4 (by decide) (fun c => ?_) (fun c => ?_)
  · replace H := H.1 c
    refine x_iconst (v := (0 : Int32)) dX4_isMovedRound_25 (by decide) ?_
    exact x_zret dX4_isMovedRound_26 (by decide) ⟨_, rfl, H⟩
  · replace H := H.2 c
    refine x_iload_n dX4_isMovedRound_7 rfl 0 rfl ?_
    refine x_iload_n dX4_isMovedRound_8 rfl 1 rfl ?_
    refine x_iload_n dX4_isMovedRound_9 rfl 3 rfl ?_
    refine x_sI sl_X4_174 dX4_isMovedRound_10 (As := [.int i0, .int i1, .int i3]) rfl rfl (Nat.le_of_ble_eq_true rfl) (CI.mono H (fun x2 h1 H => ?_))
    refine x_iload_n dX4_isMovedRound_13 rfl 2 rfl ?_
    refine x_icmp_ne (tgt := 19) dX4_isMovedRound_14 (by decide) (fun c => ?_) (fun c => ?_)
    · replace H := H.1 c
      refine x_iinc (q := 3) (v := (i3 + (1 : Int32))) dX4_isMovedRound_19 rfl rfl (by decide) (lv' := [(3, .int (i3 + (1 : Int32))), (0, .int i0), (1, .int i1), (2, .int i2)]) rfl ?_
      refine x_goto (tgt := 2) dX4_isMovedRound_22 (by decide) ?_
      refine x_perm [1, 2, 3, 0] rfl ?_
      exact H
    · replace H := H.2 c
      refine x_iconst (v := (1 : Int32)) dX4_isMovedRound_17 (by decide) ?_
      exact x_zret dX4_isMovedRound_18 (by decide) ⟨_, rfl, H⟩
set_option maxRecDepth 20000 in
theorem e_X4_sheet {d : Nat} {P : Int32 → Hp → Prop} {h : Hp} {r0 : Nat} {i1 : Int32} {i2 : Int32} {i3 : Int32} (ho : r0 < 47 ∧ ∃ fs, h r0 = .inr (4, fs)) (H : CI M_X4_isSheet d [.int i1] h (fun x2 h1 => ((x2 = 0 → P (-2 : Int32) h1) ∧
  (¬ x2 = 0 → CI M_X4_isForm d [.int i2] h1 (fun x4 h3 => ((x4 = 0 → P (-2 : Int32) h3) ∧
    (¬ x4 = 0 → ((i3 ≤ (100 : Int32) → ((0 ≤ i3 → ∃ q5, gR h3 4 r0 4 = some q5 ∧ ∃ q6, lQ 3 h3 q5 i1 = some q6 ∧ CV M_X1_start d [.ref q6, .int i2, .int i3] h3 (fun h7 => P i3 h7)) ∧
        (¬ 0 ≤ i3 → CI M_X4_findingOf d [.ref r0, .int (5 : Int32)] h3 (fun x9 h8 => P x9 h8)))) ∧
      (¬ i3 ≤ (100 : Int32) → P (-2 : Int32) h3))))))))) : CI M_X4_sheet (d + 1) [.ref r0, .int i1, .int i2, .int i3] h P := by
  refine ⟨⟨r0, rfl, ho⟩, x_enter (by decide) (Nat.le_of_ble_eq_true rfl) ?_⟩
  show X (KM (some .int) (fun r h' => ∃ x, r = some (.int x) ∧ P x h')) RX4 cX4_sheet 4 (d + 1) h 0 [(0, .ref r0), (1, .int i1), (2, .int i2), (3, .int i3)] []
  refine x_iload_n dX4_sheet_0 rfl 1 rfl ?_
  refine x_sI sl_X4_177 dX4_sheet_1 (As := [.int i1]) rfl rfl (Nat.le_of_ble_eq_true rfl) (CI.mono H (fun x2 h1 H => ?_))
  refine x_if_eq (tgt := 20) dX4_sheet_4 (by decide) (fun c => ?_) (fun c => ?_)
  · replace H := H.1 c
    refine x_bipush (v := (-2 : Int32)) dX4_sheet_20 (by decide) ?_
    exact x_iret dX4_sheet_22 ⟨_, rfl, H⟩
  · replace H := H.2 c
    refine x_iload_n dX4_sheet_7 rfl 2 rfl ?_
    refine x_sI sl_X4_180 dX4_sheet_8 (As := [.int i2]) rfl rfl (Nat.le_of_ble_eq_true rfl) (CI.mono H (fun x4 h3 H => ?_))
    refine x_if_eq (tgt := 20) dX4_sheet_11 (by decide) (fun c => ?_) (fun c => ?_)
    · replace H := H.1 c
      refine x_bipush (v := (-2 : Int32)) dX4_sheet_20 (by decide) ?_
      exact x_iret dX4_sheet_22 ⟨_, rfl, H⟩
    · replace H := H.2 c
      refine x_iload_n dX4_sheet_14 rfl 3 rfl ?_
      refine x_bipush (v := (100 : Int32)) dX4_sheet_15 (by decide) ?_
      refine x_icmp_le (tgt := 23) dX4_sheet_17 (by decide) (fun c => ?_) (fun c => ?_)
      · replace H := H.1 c
        refine x_iload_n dX4_sheet_23 rfl 3 rfl ?_
        refine x_if_ge (tgt := 33) dX4_sheet_24 (by decide) (fun c => ?_) (fun c => ?_)
        · replace H := H.1 c
          refine x_aload_n dX4_sheet_33 rfl 0 rfl ?_
          obtain ⟨q5, eq5, H⟩ := H
          refine x_getR fl_X4_35 dX4_sheet_34 eq5 ?_
          refine x_iload_n dX4_sheet_37 rfl 1 rfl ?_
          obtain ⟨q6, eq6, H⟩ := H
          refine x_aaload3 dX4_sheet_38 eq6 ?_
          refine x_iload_n dX4_sheet_39 rfl 2 rfl ?_
          refine x_iload_n dX4_sheet_40 rfl 3 rfl ?_
          refine x_vV vl_X4_186 dX4_sheet_41 (As := [.int i2, .int i3]) rfl rfl (Nat.le_of_ble_eq_true rfl) (CV.mono H (fun h7 H => ?_))
          refine x_iload_n dX4_sheet_44 rfl 3 rfl ?_
          exact x_iret dX4_sheet_45 ⟨_, rfl, H⟩
        · replace H := H.2 c
          refine x_aload_n dX4_sheet_27 rfl 0 rfl ?_
          refine x_iconst (v := (5 : Int32)) dX4_sheet_28 (by decide) ?_
          refine x_vI vl_X4_183 dX4_sheet_29 (As := [.int (5 : Int32)]) rfl rfl (Nat.le_of_ble_eq_true rfl) (CI.mono H (fun x9 h8 H => ?_))
          exact x_iret dX4_sheet_32 ⟨_, rfl, H⟩
      · replace H := H.2 c
        refine x_bipush (v := (-2 : Int32)) dX4_sheet_20 (by decide) ?_
        exact x_iret dX4_sheet_22 ⟨_, rfl, H⟩
set_option maxRecDepth 20000 in
theorem e_X4_lose {d : Nat} {P : Int32 → Hp → Prop} {h : Hp} {r0 : Nat} {i1 : Int32} (ho : r0 < 47 ∧ ∃ fs, h r0 = .inr (4, fs)) (H : CI M_X4_isSheet d [.int i1] h (fun x2 h1 => ((¬ x2 = 0 → ∃ q3, gR h1 4 r0 4 = some q3 ∧ ∃ q4, lQ 3 h1 q3 i1 = some q4 ∧ ∃ x5, gI h1 1 q4 1 = some x5 ∧ ((x5 = 0 → ∃ h6, sF h1 1 q4 1 (.int (1 : Int32)) = some h6 ∧ ∃ x7, gI h6 1 q4 3 = some x7 ∧ P x7 h6) ∧
    (¬ x5 = 0 → CI M_X4_findingOf d [.ref r0, .int (1 : Int32)] h1 (fun x9 h8 => P x9 h8)))) ∧
  (x2 = 0 → P (-2 : Int32) h1)))) : CI M_X4_lose (d + 1) [.ref r0, .int i1] h P := by
  refine ⟨⟨r0, rfl, ho⟩, x_enter (by decide) (Nat.le_of_ble_eq_true rfl) ?_⟩
  show X (KM (some .int) (fun r h' => ∃ x, r = some (.int x) ∧ P x h')) RX4 cX4_lose 3 (d + 1) h 0 [(0, .ref r0), (1, .int i1)] []
  refine x_iload_n dX4_lose_0 rfl 1 rfl ?_
  refine x_sI sl_X4_177 dX4_lose_1 (As := [.int i1]) rfl rfl (Nat.le_of_ble_eq_true rfl) (CI.mono H (fun x2 h1 H => ?_))
  refine x_if_ne (tgt := 10) dX4_lose_4 (by decide) (fun c => ?_) (fun c => ?_)
  · replace H := H.1 c
    refine x_aload_n dX4_lose_10 rfl 0 rfl ?_
    obtain ⟨q3, eq3, H⟩ := H
    refine x_getR fl_X4_35 dX4_lose_11 eq3 ?_
    refine x_iload_n dX4_lose_14 rfl 1 rfl ?_
    obtain ⟨q4, eq4, H⟩ := H
    refine x_aaload3 dX4_lose_15 eq4 ?_
    refine x_astore_n dX4_lose_16 rfl (by decide) (lv' := [(2, .ref q4), (0, .ref r0), (1, .int i1)]) rfl ?_
    refine x_aload_n dX4_lose_17 rfl 0 rfl ?_
    obtain ⟨x5, ex5, H⟩ := H
    refine x_getI fl_X4_188 dX4_lose_18 ex5 ?_
    refine x_if_eq (tgt := 30) dX4_lose_21 (by decide) (fun c => ?_) (fun c => ?_)
    · replace H := H.1 c
      refine x_aload_n dX4_lose_30 rfl 0 rfl ?_
      refine x_iconst (v := (1 : Int32)) dX4_lose_31 (by decide) ?_
      obtain ⟨h6, eh6, H⟩ := H
      refine x_putI fp_X4_188 rfl rfl dX4_lose_32 eh6 ?_
      refine x_aload_n dX4_lose_35 rfl 0 rfl ?_
      obtain ⟨x7, ex7, H⟩ := H
      refine x_getI fl_X4_192 dX4_lose_36 ex7 ?_
      exact x_iret dX4_lose_39 ⟨_, rfl, H⟩
    · replace H := H.2 c
      refine x_aload_n dX4_lose_24 rfl 1 rfl ?_
      refine x_iconst (v := (1 : Int32)) dX4_lose_25 (by decide) ?_
      refine x_vI vl_X4_183 dX4_lose_26 (As := [.int (1 : Int32)]) rfl rfl (Nat.le_of_ble_eq_true rfl) (CI.mono H (fun x9 h8 H => ?_))
      exact x_iret dX4_lose_29 ⟨_, rfl, H⟩
  · replace H := H.2 c
    refine x_bipush (v := (-2 : Int32)) dX4_lose_7 (by decide) ?_
    exact x_iret dX4_lose_9 ⟨_, rfl, H⟩
set_option maxRecDepth 20000 in
theorem e_X4_lay {d : Nat} {P : Int32 → Hp → Prop} {h : Hp} {r0 : Nat} {i1 : Int32} {i2 : Int32} {i3 : Int32} {i4 : Int32} (ho : r0 < 47 ∧ ∃ fs, h r0 = .inr (4, fs)) (H : CI M_X4_isSheet d [.int i1] h (fun x2 h1 => ((x2 = 0 → P (-2 : Int32) h1) ∧
  (¬ x2 = 0 → CI M_X4_isForm d [.int i2] h1 (fun x4 h3 => ((¬ x4 = 0 → ∃ q5, gR h3 4 r0 4 = some q5 ∧ ∃ q6, lQ 3 h3 q5 i1 = some q6 ∧ CI M_X1_wrongWithItem d [.ref q6, .int i2, .int i3] h3 (fun x8 h7 => ((x8 = 0 → ∃ q9, gR h7 4 r0 4 = some q9 ∧ ∃ q10, lQ 3 h7 q9 i1 = some q10 ∧ CV M_X1_setItem d [.ref q10, .int i3, .int i4] h7 (fun h11 => P (1 : Int32) h11)) ∧
      (¬ x8 = 0 → CI M_X4_findingOf d [.ref r0, .int x8] h7 (fun x13 h12 => P x13 h12))))) ∧
    (x4 = 0 → P (-2 : Int32) h3))))))) : CI M_X4_lay (d + 1) [.ref r0, .int i1, .int i2, .int i3, .int i4] h P := by
  refine ⟨⟨r0, rfl, ho⟩, x_enter (by decide) (Nat.le_of_ble_eq_true rfl) ?_⟩
  show X (KM (some .int) (fun r h' => ∃ x, r = some (.int x) ∧ P x h')) RX4 cX4_lay 6 (d + 1) h 0 [(0, .ref r0), (1, .int i1), (2, .int i2), (3, .int i3), (4, .int i4)] []
  refine x_iload_n dX4_lay_0 rfl 1 rfl ?_
  refine x_sI sl_X4_177 dX4_lay_1 (As := [.int i1]) rfl rfl (Nat.le_of_ble_eq_true rfl) (CI.mono H (fun x2 h1 H => ?_))
  refine x_if_eq (tgt := 14) dX4_lay_4 (by decide) (fun c => ?_) (fun c => ?_)
  · replace H := H.1 c
    refine x_bipush (v := (-2 : Int32)) dX4_lay_14 (by decide) ?_
    exact x_iret dX4_lay_16 ⟨_, rfl, H⟩
  · replace H := H.2 c
    refine x_iload_n dX4_lay_7 rfl 2 rfl ?_
    refine x_sI sl_X4_180 dX4_lay_8 (As := [.int i2]) rfl rfl (Nat.le_of_ble_eq_true rfl) (CI.mono H (fun x4 h3 H => ?_))
    refine x_if_ne (tgt := 17) dX4_lay_11 (by decide) (fun c => ?_) (fun c => ?_)
    · replace H := H.1 c
      refine x_aload_n dX4_lay_17 rfl 0 rfl ?_
      obtain ⟨q5, eq5, H⟩ := H
      refine x_getR fl_X4_35 dX4_lay_18 eq5 ?_
      refine x_iload_n dX4_lay_21 rfl 1 rfl ?_
      obtain ⟨q6, eq6, H⟩ := H
      refine x_aaload3 dX4_lay_22 eq6 ?_
      refine x_iload_n dX4_lay_23 rfl 2 rfl ?_
      refine x_iload_n dX4_lay_24 rfl 3 rfl ?_
      refine x_vI vl_X4_193 dX4_lay_25 (As := [.int i2, .int i3]) rfl rfl (Nat.le_of_ble_eq_true rfl) (CI.mono H (fun x8 h7 H => ?_))
      refine x_istore dX4_lay_28 (by decide) (lv' := [(5, .int x8), (0, .ref r0), (1, .int i1), (2, .int i2), (3, .int i3), (4, .int i4)]) rfl ?_
      refine x_iload dX4_lay_30 0 rfl ?_
      refine x_if_eq (tgt := 42) dX4_lay_32 (by decide) (fun c => ?_) (fun c => ?_)
      · replace H := H.1 c
        refine x_aload_n dX4_lay_42 rfl 1 rfl ?_
        obtain ⟨q9, eq9, H⟩ := H
        refine x_getR fl_X4_35 dX4_lay_43 eq9 ?_
        refine x_iload_n dX4_lay_46 rfl 2 rfl ?_
        obtain ⟨q10, eq10, H⟩ := H
        refine x_aaload3 dX4_lay_47 eq10 ?_
        refine x_iload_n dX4_lay_48 rfl 4 rfl ?_
        refine x_iload dX4_lay_49 5 rfl ?_
        refine x_vV vl_X4_196 dX4_lay_51 (As := [.int i3, .int i4]) rfl rfl (Nat.le_of_ble_eq_true rfl) (CV.mono H (fun h11 H => ?_))
        refine x_iconst (v := (1 : Int32)) dX4_lay_54 (by decide) ?_
        exact x_iret dX4_lay_55 ⟨_, rfl, H⟩
      · replace H := H.2 c
        refine x_aload_n dX4_lay_35 rfl 1 rfl ?_
        refine x_iload dX4_lay_36 0 rfl ?_
        refine x_vI vl_X4_183 dX4_lay_38 (As := [.int x8]) rfl rfl (Nat.le_of_ble_eq_true rfl) (CI.mono H (fun x13 h12 H => ?_))
        exact x_iret dX4_lay_41 ⟨_, rfl, H⟩
    · replace H := H.2 c
      refine x_bipush (v := (-2 : Int32)) dX4_lay_14 (by decide) ?_
      exact x_iret dX4_lay_16 ⟨_, rfl, H⟩
set_option maxRecDepth 20000 in
theorem e_X4_get {d : Nat} {P : Int32 → Hp → Prop} {h : Hp} {r0 : Nat} {i1 : Int32} {i2 : Int32} {i3 : Int32} (ho : r0 < 47 ∧ ∃ fs, h r0 = .inr (4, fs)) (H : CI M_X4_isSheet d [.int i1] h (fun x2 h1 => ((x2 = 0 → P (-2147483648 : Int32) h1) ∧
  (¬ x2 = 0 → CI M_X4_isForm d [.int i2] h1 (fun x4 h3 => ((¬ x4 = 0 → ∃ q5, gR h3 4 r0 4 = some q5 ∧ ∃ q6, lQ 3 h3 q5 i1 = some q6 ∧ CI M_X1_wrongWithItem d [.ref q6, .int i2, .int i3] h3 (fun x8 h7 => ((x8 = 0 → ∃ q9, gR h7 4 r0 4 = some q9 ∧ ∃ q10, lQ 3 h7 q9 i1 = some q10 ∧ ∃ q11, gR h7 1 q10 0 = some q11 ∧ ∃ x12, lI h7 q11 i3 = some x12 ∧ P x12 h7) ∧
      (¬ x8 = 0 → ∃ h13, sF h7 4 r0 6 (.int x8) = some h13 ∧ P (-2147483648 : Int32) h13)))) ∧
    (x4 = 0 → P (-2147483648 : Int32) h3))))))) : CI M_X4_get (d + 1) [.ref r0, .int i1, .int i2, .int i3] h P := by
  refine ⟨⟨r0, rfl, ho⟩, x_enter (by decide) (Nat.le_of_ble_eq_true rfl) ?_⟩
  show X (KM (some .int) (fun r h' => ∃ x, r = some (.int x) ∧ P x h')) RX4 cX4_get 5 (d + 1) h 0 [(0, .ref r0), (1, .int i1), (2, .int i2), (3, .int i3)] []
  refine x_iload_n dX4_get_0 rfl 1 rfl ?_
  refine x_sI sl_X4_177 dX4_get_1 (As := [.int i1]) rfl rfl (Nat.le_of_ble_eq_true rfl) (CI.mono H (fun x2 h1 H => ?_))
  refine x_if_eq (tgt := 14) dX4_get_4 (by decide) (fun c => ?_) (fun c => ?_)
  · replace H := H.1 c
    refine x_ldc (v := (-2147483648 : Int32)) (lw_gm (i := 490) (by decide +kernel) rfl) dX4_get_14 ?_
    exact x_iret dX4_get_16 ⟨_, rfl, H⟩
  · replace H := H.2 c
    refine x_iload_n dX4_get_7 rfl 2 rfl ?_
    refine x_sI sl_X4_180 dX4_get_8 (As := [.int i2]) rfl rfl (Nat.le_of_ble_eq_true rfl) (CI.mono H (fun x4 h3 H => ?_))
    refine x_if_ne (tgt := 17) dX4_get_11 (by decide) (fun c => ?_) (fun c => ?_)
    · replace H := H.1 c
      refine x_aload_n dX4_get_17 rfl 0 rfl ?_
      obtain ⟨q5, eq5, H⟩ := H
      refine x_getR fl_X4_35 dX4_get_18 eq5 ?_
      refine x_iload_n dX4_get_21 rfl 1 rfl ?_
      obtain ⟨q6, eq6, H⟩ := H
      refine x_aaload3 dX4_get_22 eq6 ?_
      refine x_iload_n dX4_get_23 rfl 2 rfl ?_
      refine x_iload_n dX4_get_24 rfl 3 rfl ?_
      refine x_vI vl_X4_193 dX4_get_25 (As := [.int i2, .int i3]) rfl rfl (Nat.le_of_ble_eq_true rfl) (CI.mono H (fun x8 h7 H => ?_))
      refine x_istore dX4_get_28 (by decide) (lv' := [(4, .int x8), (0, .ref r0), (1, .int i1), (2, .int i2), (3, .int i3)]) rfl ?_
      refine x_iload dX4_get_30 0 rfl ?_
      refine x_if_eq (tgt := 44) dX4_get_32 (by decide) (fun c => ?_) (fun c => ?_)
      · replace H := H.1 c
        refine x_aload_n dX4_get_44 rfl 1 rfl ?_
        obtain ⟨q9, eq9, H⟩ := H
        refine x_getR fl_X4_35 dX4_get_45 eq9 ?_
        refine x_iload_n dX4_get_48 rfl 2 rfl ?_
        obtain ⟨q10, eq10, H⟩ := H
        refine x_aaload3 dX4_get_49 eq10 ?_
        obtain ⟨q11, eq11, H⟩ := H
        refine x_getR fl_X4_200 dX4_get_50 eq11 ?_
        refine x_iload_n dX4_get_53 rfl 4 rfl ?_
        obtain ⟨x12, ex12, H⟩ := H
        refine x_iaload dX4_get_54 ex12 ?_
        exact x_iret dX4_get_55 ⟨_, rfl, H⟩
      · replace H := H.2 c
        refine x_aload_n dX4_get_35 rfl 1 rfl ?_
        refine x_iload dX4_get_36 0 rfl ?_
        obtain ⟨h13, eh13, H⟩ := H
        refine x_putI fp_X4_43 rfl rfl dX4_get_38 eh13 ?_
        refine x_ldc (v := (-2147483648 : Int32)) (lw_gm (i := 490) (by decide +kernel) rfl) dX4_get_41 ?_
        exact x_iret dX4_get_43 ⟨_, rfl, H⟩
    · replace H := H.2 c
      refine x_ldc (v := (-2147483648 : Int32)) (lw_gm (i := 490) (by decide +kernel) rfl) dX4_get_14 ?_
      exact x_iret dX4_get_16 ⟨_, rfl, H⟩
set_option maxRecDepth 20000 in
theorem e_X4_copy {d : Nat} {P : Int32 → Hp → Prop} {h : Hp} {r0 : Nat} {i1 : Int32} {i2 : Int32} {i3 : Int32} {i4 : Int32} {i5 : Int32} (ho : r0 < 47 ∧ ∃ fs, h r0 = .inr (4, fs)) (H : CI M_X4_isSheet d [.int i1] h (fun x2 h1 => ((x2 = 0 → P (-2 : Int32) h1) ∧
  (¬ x2 = 0 → CI M_X4_isSheet d [.int i3] h1 (fun x4 h3 => ((¬ x4 = 0 → ∃ q5, gR h3 4 r0 4 = some q5 ∧ ∃ q6, lQ 3 h3 q5 i1 = some q6 ∧ ∃ q7, gR h3 4 r0 4 = some q7 ∧ ∃ q8, lQ 3 h3 q7 i3 = some q8 ∧ ∃ x9, gI h3 1 q6 1 = some x9 ∧ ((¬ x9 = 0 → CI M_X4_findingOf d [.ref r0, .int (1 : Int32)] h3 (fun x11 h10 => P x11 h10)) ∧
      (x9 = 0 → ∃ x12, gI h3 1 q8 1 = some x12 ∧ ((x12 = 0 → ∃ x13, gI h3 1 q6 2 = some x13 ∧ ∃ x14, gI h3 1 q8 2 = some x14 ∧ ((x13 = x14 → CI M_X1_hasItems d [.ref q6, .int i2, .int i5] h3 (fun x16 h15 => ((x16 = 0 → CI M_X4_findingOf d [.ref r0, .int (2 : Int32)] h15 (fun x18 h17 => P x18 h17)) ∧
            (¬ x16 = 0 → CI M_X1_hasItems d [.ref q8, .int i4, .int i5] h15 (fun x20 h19 => ((¬ x20 = 0 → ∃ q21, gR h19 1 q6 0 = some q21 ∧ ∃ q22, gR h19 1 q8 0 = some q22 ∧ ∃ h23, cpyI h19 q21 i2 q22 i4 i5 = some h23 ∧ P (1 : Int32) h23) ∧
              (x20 = 0 → CI M_X4_findingOf d [.ref r0, .int (2 : Int32)] h19 (fun x25 h24 => P x25 h24)))))))) ∧
          (¬ x13 = x14 → CI M_X4_findingOf d [.ref r0, .int (4 : Int32)] h3 (fun x27 h26 => P x27 h26)))) ∧
        (¬ x12 = 0 → CI M_X4_findingOf d [.ref r0, .int (1 : Int32)] h3 (fun x29 h28 => P x29 h28)))))) ∧
    (x4 = 0 → P (-2 : Int32) h3))))))) : CI M_X4_copy (d + 1) [.ref r0, .int i1, .int i2, .int i3, .int i4, .int i5] h P := by
  refine ⟨⟨r0, rfl, ho⟩, x_enter (by decide) (Nat.le_of_ble_eq_true rfl) ?_⟩
  show X (KM (some .int) (fun r h' => ∃ x, r = some (.int x) ∧ P x h')) RX4 cX4_copy 8 (d + 1) h 0 [(0, .ref r0), (1, .int i1), (2, .int i2), (3, .int i3), (4, .int i4), (5, .int i5)] []
  refine x_iload_n dX4_copy_0 rfl 1 rfl ?_
  refine x_sI sl_X4_177 dX4_copy_1 (As := [.int i1]) rfl rfl (Nat.le_of_ble_eq_true rfl) (CI.mono H (fun x2 h1 H => ?_))
  refine x_if_eq (tgt := 14) dX4_copy_4 (by decide) (fun c => ?_) (fun c => ?_)
  · replace H := H.1 c
    refine x_bipush (v := (-2 : Int32)) dX4_copy_14 (by decide) ?_
    exact x_iret dX4_copy_16 ⟨_, rfl, H⟩
  · replace H := H.2 c
    refine x_iload_n dX4_copy_7 rfl 3 rfl ?_
    refine x_sI sl_X4_177 dX4_copy_8 (As := [.int i3]) rfl rfl (Nat.le_of_ble_eq_true rfl) (CI.mono H (fun x4 h3 H => ?_))
    refine x_if_ne (tgt := 17) dX4_copy_11 (by decide) (fun c => ?_) (fun c => ?_)
    · replace H := H.1 c
      refine x_aload_n dX4_copy_17 rfl 0 rfl ?_
      obtain ⟨q5, eq5, H⟩ := H
      refine x_getR fl_X4_35 dX4_copy_18 eq5 ?_
      refine x_iload_n dX4_copy_21 rfl 1 rfl ?_
      obtain ⟨q6, eq6, H⟩ := H
      refine x_aaload3 dX4_copy_22 eq6 ?_
      refine x_astore dX4_copy_23 (by decide) (lv' := [(6, .ref q6), (0, .ref r0), (1, .int i1), (2, .int i2), (3, .int i3), (4, .int i4), (5, .int i5)]) rfl ?_
      refine x_aload_n dX4_copy_25 rfl 1 rfl ?_
      obtain ⟨q7, eq7, H⟩ := H
      refine x_getR fl_X4_35 dX4_copy_26 eq7 ?_
      refine x_iload_n dX4_copy_29 rfl 4 rfl ?_
      obtain ⟨q8, eq8, H⟩ := H
      refine x_aaload3 dX4_copy_30 eq8 ?_
      refine x_astore dX4_copy_31 (by decide) (lv' := [(7, .ref q8), (6, .ref q6), (0, .ref r0), (1, .int i1), (2, .int i2), (3, .int i3), (4, .int i4), (5, .int i5)]) rfl ?_
      refine x_aload dX4_copy_33 1 rfl ?_
      obtain ⟨x9, ex9, H⟩ := H
      refine x_getI fl_X4_188 dX4_copy_35 ex9 ?_
      refine x_if_ne (tgt := 49) dX4_copy_38 (by decide) (fun c => ?_) (fun c => ?_)
      · replace H := H.1 c
        refine x_aload_n dX4_copy_49 rfl 2 rfl ?_
        refine x_iconst (v := (1 : Int32)) dX4_copy_50 (by decide) ?_
        refine x_vI vl_X4_183 dX4_copy_51 (As := [.int (1 : Int32)]) rfl rfl (Nat.le_of_ble_eq_true rfl) (CI.mono H (fun x11 h10 H => ?_))
        exact x_iret dX4_copy_54 ⟨_, rfl, H⟩
      · replace H := H.2 c
        refine x_aload dX4_copy_41 0 rfl ?_
        obtain ⟨x12, ex12, H⟩ := H
        refine x_getI fl_X4_188 dX4_copy_43 ex12 ?_
        refine x_if_eq (tgt := 55) dX4_copy_46 (by decide) (fun c => ?_) (fun c => ?_)
        · replace H := H.1 c
          refine x_aload dX4_copy_55 1 rfl ?_
          obtain ⟨x13, ex13, H⟩ := H
          refine x_getI fl_X4_203 dX4_copy_57 ex13 ?_
          refine x_aload dX4_copy_60 0 rfl ?_
          obtain ⟨x14, ex14, H⟩ := H
          refine x_getI fl_X4_203 dX4_copy_62 ex14 ?_
          refine x_icmp_eq (tgt := 74) dX4_copy_65 (by decide) (fun c => ?_) (fun c => ?_)
          · replace H := H.1 c
            refine x_aload dX4_copy_74 1 rfl ?_
            refine x_iload_n dX4_copy_76 rfl 4 rfl ?_
            refine x_iload dX4_copy_77 7 rfl ?_
            refine x_vI vl_X4_206 dX4_copy_79 (As := [.int i2, .int i5]) rfl rfl (Nat.le_of_ble_eq_true rfl) (CI.mono H (fun x16 h15 H => ?_))
            refine x_if_eq (tgt := 97) dX4_copy_82 (by decide) (fun c => ?_) (fun c => ?_)
            · replace H := H.1 c
              refine x_aload_n dX4_copy_97 rfl 2 rfl ?_
              refine x_iconst (v := (2 : Int32)) dX4_copy_98 (by decide) ?_
              refine x_vI vl_X4_183 dX4_copy_99 (As := [.int (2 : Int32)]) rfl rfl (Nat.le_of_ble_eq_true rfl) (CI.mono H (fun x18 h17 H => ?_))
              exact x_iret dX4_copy_102 ⟨_, rfl, H⟩
            · replace H := H.2 c
              refine x_aload dX4_copy_85 0 rfl ?_
              refine x_iload dX4_copy_87 6 rfl ?_
              refine x_iload dX4_copy_89 7 rfl ?_
              refine x_vI vl_X4_206 dX4_copy_91 (As := [.int i4, .int i5]) rfl rfl (Nat.le_of_ble_eq_true rfl) (CI.mono H (fun x20 h19 H => ?_))
              refine x_if_ne (tgt := 103) dX4_copy_94 (by decide) (fun c => ?_) (fun c => ?_)
              · replace H := H.1 c
                refine x_aload dX4_copy_103 1 rfl ?_
                obtain ⟨q21, eq21, H⟩ := H
                refine x_getR fl_X4_200 dX4_copy_105 eq21 ?_
                refine x_iload_n dX4_copy_108 rfl 4 rfl ?_
                refine x_aload dX4_copy_109 0 rfl ?_
                obtain ⟨q22, eq22, H⟩ := H
                refine x_getR fl_X4_200 dX4_copy_111 eq22 ?_
                refine x_iload dX4_copy_114 6 rfl ?_
                refine x_iload dX4_copy_116 7 rfl ?_
                obtain ⟨h23, eh23, H⟩ := H
                refine x_acopy (lw_gm (i := 499) (by decide +kernel) rfl) (lw_gm (i := 501) (by decide +kernel) rfl) (lw_gm (i := 500) (by decide +kernel) rfl) (lw_gm (i := 41) (by decide +kernel) rfl) dX4_copy_118 eh23 ?_
                refine x_iconst (v := (1 : Int32)) dX4_copy_121 (by decide) ?_
                exact x_iret dX4_copy_122 ⟨_, rfl, H⟩
              · replace H := H.2 c
                refine x_aload_n dX4_copy_97 rfl 2 rfl ?_
                refine x_iconst (v := (2 : Int32)) dX4_copy_98 (by decide) ?_
                refine x_vI vl_X4_183 dX4_copy_99 (As := [.int (2 : Int32)]) rfl rfl (Nat.le_of_ble_eq_true rfl) (CI.mono H (fun x25 h24 H => ?_))
                exact x_iret dX4_copy_102 ⟨_, rfl, H⟩
          · replace H := H.2 c
            refine x_aload_n dX4_copy_68 rfl 2 rfl ?_
            refine x_iconst (v := (4 : Int32)) dX4_copy_69 (by decide) ?_
            refine x_vI vl_X4_183 dX4_copy_70 (As := [.int (4 : Int32)]) rfl rfl (Nat.le_of_ble_eq_true rfl) (CI.mono H (fun x27 h26 H => ?_))
            exact x_iret dX4_copy_73 ⟨_, rfl, H⟩
        · replace H := H.2 c
          refine x_aload_n dX4_copy_49 rfl 2 rfl ?_
          refine x_iconst (v := (1 : Int32)) dX4_copy_50 (by decide) ?_
          refine x_vI vl_X4_183 dX4_copy_51 (As := [.int (1 : Int32)]) rfl rfl (Nat.le_of_ble_eq_true rfl) (CI.mono H (fun x29 h28 H => ?_))
          exact x_iret dX4_copy_54 ⟨_, rfl, H⟩
    · replace H := H.2 c
      refine x_bipush (v := (-2 : Int32)) dX4_copy_14 (by decide) ?_
      exact x_iret dX4_copy_16 ⟨_, rfl, H⟩
def L_X4_load_66 (d : Nat) (P : Int32 → Hp → Prop) (h : Hp) (r0 : Nat) (i2 : Int32) (r3 : Nat) (i4 : Int32) : Prop := X (KM (some .int) (fun r h' => ∃ x, r = some (.int x) ∧ P x h')) RX4 cX4_load 6 (d + 1) h 66 [(0, .ref r0), (2, .int i2), (3, .ref r3), (4, .int i4)] []
def L_X4_load_75 (d : Nat) (P : Int32 → Hp → Prop) (h : Hp) (r0 : Nat) (i2 : Int32) (r3 : Nat) (i4 : Int32) (i5 : Int32) : Prop := X (KM (some .int) (fun r h' => ∃ x, r = some (.int x) ∧ P x h')) RX4 cX4_load 6 (d + 1) h 75 [(0, .ref r0), (2, .int i2), (3, .ref r3), (4, .int i4), (5, .int i5)] []
set_option maxRecDepth 20000 in
theorem e_X4_load {d : Nat} {P : Int32 → Hp → Prop} {h : Hp} {r0 : Nat} {i1 : Int32} {i2 : Int32} (ho : r0 < 47 ∧ ∃ fs, h r0 = .inr (4, fs)) (H : CI M_X4_isSheet d [.int i1] h (fun x2 h1 => ((x2 = 0 → P (-2 : Int32) h1) ∧
  (¬ x2 = 0 → CI M_X4_isLineCount d [.int i2] h1 (fun x4 h3 => ((¬ x4 = 0 → ∃ q5, gR h3 4 r0 4 = some q5 ∧ ∃ q6, lQ 3 h3 q5 i1 = some q6 ∧ ∃ x7, gI h3 1 q6 1 = some x7 ∧ ((x7 = 0 → ∃ x8, gI h3 1 q6 3 = some x8 ∧ (((i2 * (i2 - (1 : Int32))) ≤ x8 → ∃ q9, gR h3 4 r0 0 = some q9 ∧ CV M_X3_start d [.ref q9, .int i2] h3 (fun h10 => L_X4_load_66 d P h10 r0 i2 q6 (1 : Int32))) ∧
        (¬ (i2 * (i2 - (1 : Int32))) ≤ x8 → CI M_X4_findingOf d [.ref r0, .int (2 : Int32)] h3 (fun x12 h11 => P x12 h11)))) ∧
      (¬ x7 = 0 → CI M_X4_findingOf d [.ref r0, .int (1 : Int32)] h3 (fun x14 h13 => P x14 h13)))) ∧
    (x4 = 0 → P (-2 : Int32) h3))))))) : CI M_X4_load (d + 1) [.ref r0, .int i1, .int i2] h P := by
  refine ⟨⟨r0, rfl, ho⟩, x_enter (by decide) (Nat.le_of_ble_eq_true rfl) ?_⟩
  show X (KM (some .int) (fun r h' => ∃ x, r = some (.int x) ∧ P x h')) RX4 cX4_load 6 (d + 1) h 0 [(0, .ref r0), (1, .int i1), (2, .int i2)] []
  refine x_iload_n dX4_load_0 rfl 1 rfl ?_
  refine x_sI sl_X4_177 dX4_load_1 (As := [.int i1]) rfl rfl (Nat.le_of_ble_eq_true rfl) (CI.mono H (fun x2 h1 H => ?_))
  refine x_if_eq (tgt := 14) dX4_load_4 (by decide) (fun c => ?_) (fun c => ?_)
  · replace H := H.1 c
    refine x_bipush (v := (-2 : Int32)) dX4_load_14 (by decide) ?_
    exact x_iret dX4_load_16 ⟨_, rfl, H⟩
  · replace H := H.2 c
    refine x_iload_n dX4_load_7 rfl 2 rfl ?_
    refine x_sI sl_X4_47 dX4_load_8 (As := [.int i2]) rfl rfl (Nat.le_of_ble_eq_true rfl) (CI.mono H (fun x4 h3 H => ?_))
    refine x_if_ne (tgt := 17) dX4_load_11 (by decide) (fun c => ?_) (fun c => ?_)
    · replace H := H.1 c
      refine x_aload_n dX4_load_17 rfl 0 rfl ?_
      obtain ⟨q5, eq5, H⟩ := H
      refine x_getR fl_X4_35 dX4_load_18 eq5 ?_
      refine x_iload_n dX4_load_21 rfl 1 rfl ?_
      obtain ⟨q6, eq6, H⟩ := H
      refine x_aaload3 dX4_load_22 eq6 ?_
      refine x_astore_n dX4_load_23 rfl (by decide) (lv' := [(3, .ref q6), (0, .ref r0), (1, .int i1), (2, .int i2)]) rfl ?_
      refine x_aload_n dX4_load_24 rfl 0 rfl ?_
      obtain ⟨x7, ex7, H⟩ := H
      refine x_getI fl_X4_188 dX4_load_25 ex7 ?_
      refine x_if_eq (tgt := 37) dX4_load_28 (by decide) (fun c => ?_) (fun c => ?_)
      · replace H := H.1 c
        refine x_aload_n dX4_load_37 rfl 0 rfl ?_
        obtain ⟨x8, ex8, H⟩ := H
        refine x_getI fl_X4_192 dX4_load_38 ex8 ?_
        refine x_iload_n dX4_load_41 rfl 3 rfl ?_
        refine x_iload_n dX4_load_42 rfl 3 rfl ?_
        refine x_iconst (v := (1 : Int32)) dX4_load_43 (by decide) ?_
        refine x_isub dX4_load_44 ?_
        refine x_imul dX4_load_45 ?_
        refine x_icmp_ge (tgt := 55) dX4_load_46 (by decide) (fun c => ?_) (fun c => ?_)
        · replace H := H.1 c
          refine x_aload_n dX4_load_55 rfl 1 rfl ?_
          obtain ⟨q9, eq9, H⟩ := H
          refine x_getR fl_X4_10 dX4_load_56 eq9 ?_
          refine x_iload_n dX4_load_59 rfl 3 rfl ?_
          refine x_vV vl_X4_54 dX4_load_60 (As := [.int i2]) rfl rfl (Nat.le_of_ble_eq_true rfl) (CV.mono H (fun h10 H => ?_))
          refine x_iconst (v := (1 : Int32)) dX4_load_63 (by decide) ?_
          refine x_istore dX4_load_64 (by decide) (lv' := [(4, .int (1 : Int32)), (3, .ref q6), (0, .ref r0), (1, .int i1), (2, .int i2)]) rfl ?_
          refine x_perm [2, 4, 1, 0] rfl ?_
          exact H
        · replace H := H.2 c
          refine x_aload_n dX4_load_49 rfl 1 rfl ?_
          refine x_iconst (v := (2 : Int32)) dX4_load_50 (by decide) ?_
          refine x_vI vl_X4_183 dX4_load_51 (As := [.int (2 : Int32)]) rfl rfl (Nat.le_of_ble_eq_true rfl) (CI.mono H (fun x12 h11 H => ?_))
          exact x_iret dX4_load_54 ⟨_, rfl, H⟩
      · replace H := H.2 c
        refine x_aload_n dX4_load_31 rfl 1 rfl ?_
        refine x_iconst (v := (1 : Int32)) dX4_load_32 (by decide) ?_
        refine x_vI vl_X4_183 dX4_load_33 (As := [.int (1 : Int32)]) rfl rfl (Nat.le_of_ble_eq_true rfl) (CI.mono H (fun x14 h13 H => ?_))
        exact x_iret dX4_load_36 ⟨_, rfl, H⟩
    · replace H := H.2 c
      refine x_bipush (v := (-2 : Int32)) dX4_load_14 (by decide) ?_
      exact x_iret dX4_load_16 ⟨_, rfl, H⟩
set_option maxRecDepth 20000 in
theorem r_X4_load_66 {d : Nat} {P : Int32 → Hp → Prop} {h : Hp} {r0 : Nat} {i2 : Int32} {r3 : Nat} {i4 : Int32} (H : ((i2 ≤ i4 → P i2 h) ∧
  (¬ i2 ≤ i4 → L_X4_load_75 d P h r0 i2 r3 i4 (0 : Int32)))) : L_X4_load_66 d P h r0 i2 r3 i4 := by
  show X (KM (some .int) (fun r h' => ∃ x, r = some (.int x) ∧ P x h')) RX4 cX4_load 6 (d + 1) h 66 [(0, .ref r0), (2, .int i2), (3, .ref r3), (4, .int i4)] []
  refine x_iload dX4_load_66 3 rfl ?_
  refine x_iload_n dX4_load_68 rfl 1 rfl ?_
  refine x_icmp_ge (tgt := 125) dX4_load_69 (by decide) (fun c => ?_) (fun c => ?_)
  · replace H := H.1 c
    refine x_iload_n dX4_load_125 rfl 1 rfl ?_
    exact x_iret dX4_load_126 ⟨_, rfl, H⟩
  · replace H := H.2 c
    refine x_iconst (v := (0 : Int32)) dX4_load_72 (by decide) ?_
    refine x_istore dX4_load_73 (by decide) (lv' := [(5, .int (0 : Int32)), (0, .ref r0), (2, .int i2), (3, .ref r3), (4, .int i4)]) rfl ?_
    refine x_perm [1, 2, 3, 4, 0] rfl ?_
    exact H
set_option maxRecDepth 20000 in
theorem r_X4_load_75 {d : Nat} {P : Int32 → Hp → Prop} {h : Hp} {r0 : Nat} {i2 : Int32} {r3 : Nat} {i4 : Int32} {i5 : Int32} (H : ((i4 ≤ i5 → L_X4_load_66 d P h r0 i2 r3 (i4 + (1 : Int32))) ∧
  (¬ i4 ≤ i5 → ∃ q1, gR h 4 r0 0 = some q1 ∧ ∃ q2, gR h 1 r3 0 = some q2 ∧ ∃ x3, lI h q2 ((i2 * i5) + i4) = some x3 ∧ ((0 ≤ x3 → CV M_X3_setMinus d [.ref q1, .int i5, .int i4, .int (0 : Int32)] h (fun h4 => L_X4_load_75 d P h4 r0 i2 r3 i4 (i5 + (1 : Int32)))) ∧
    (¬ 0 ≤ x3 → CV M_X3_setMinus d [.ref q1, .int i5, .int i4, .int (1 : Int32)] h (fun h5 => L_X4_load_75 d P h5 r0 i2 r3 i4 (i5 + (1 : Int32)))))))) : L_X4_load_75 d P h r0 i2 r3 i4 i5 := by
  show X (KM (some .int) (fun r h' => ∃ x, r = some (.int x) ∧ P x h')) RX4 cX4_load 6 (d + 1) h 75 [(0, .ref r0), (2, .int i2), (3, .ref r3), (4, .int i4), (5, .int i5)] []
  refine x_iload dX4_load_75 4 rfl ?_
  refine x_iload dX4_load_77 3 rfl ?_
  refine x_icmp_ge (tgt := 119) dX4_load_79 (by decide) (fun c => ?_) (fun c => ?_)
  · replace H := H.1 c
    refine x_iinc (q := 3) (v := (i4 + (1 : Int32))) dX4_load_119 rfl rfl (by decide) (lv' := [(4, .int (i4 + (1 : Int32))), (0, .ref r0), (2, .int i2), (3, .ref r3), (5, .int i5)]) rfl ?_
    refine x_goto (tgt := 66) dX4_load_122 (by decide) ?_
    refine x_perm [1, 2, 3, 0] rfl ?_
    exact H
  · replace H := H.2 c
    refine x_aload_n dX4_load_82 rfl 0 rfl ?_
    obtain ⟨q1, eq1, H⟩ := H
    refine x_getR fl_X4_10 dX4_load_83 eq1 ?_
    refine x_iload dX4_load_86 4 rfl ?_
    refine x_iload dX4_load_88 3 rfl ?_
    refine x_aload_n dX4_load_90 rfl 2 rfl ?_
    obtain ⟨q2, eq2, H⟩ := H
    refine x_getR fl_X4_200 dX4_load_91 eq2 ?_
    refine x_iload_n dX4_load_94 rfl 1 rfl ?_
    refine x_iload dX4_load_95 4 rfl ?_
    refine x_imul dX4_load_97 ?_
    refine x_iload dX4_load_98 3 rfl ?_
    refine x_iadd dX4_load_100 ?_
    obtain ⟨x3, ex3, H⟩ := H
    refine x_iaload dX4_load_101 ex3 ?_
    refine x_if_ge (tgt := 109) dX4_load_102 (by decide) (fun c => ?_) (fun c => ?_)
    · replace H := H.1 c
      refine x_iconst (v := (0 : Int32)) dX4_load_109 (by decide) ?_
      refine x_vV vl_X4_66 dX4_load_110 (As := [.int i5, .int i4, .int (0 : Int32)]) rfl rfl (Nat.le_of_ble_eq_true rfl) (CV.mono H (fun h4 H => ?_))
      refine x_iinc (q := 4) (v := (i5 + (1 : Int32))) dX4_load_113 rfl rfl (by decide) (lv' := [(5, .int (i5 + (1 : Int32))), (0, .ref r0), (2, .int i2), (3, .ref r3), (4, .int i4)]) rfl ?_
      refine x_goto (tgt := 75) dX4_load_116 (by decide) ?_
      refine x_perm [1, 2, 3, 4, 0] rfl ?_
      exact H
    · replace H := H.2 c
      refine x_iconst (v := (1 : Int32)) dX4_load_105 (by decide) ?_
      refine x_goto (tgt := 110) dX4_load_106 (by decide) ?_
      refine x_vV vl_X4_66 dX4_load_110 (As := [.int i5, .int i4, .int (1 : Int32)]) rfl rfl (Nat.le_of_ble_eq_true rfl) (CV.mono H (fun h5 H => ?_))
      refine x_iinc (q := 4) (v := (i5 + (1 : Int32))) dX4_load_113 rfl rfl (by decide) (lv' := [(5, .int (i5 + (1 : Int32))), (0, .ref r0), (2, .int i2), (3, .ref r3), (4, .int i4)]) rfl ?_
      refine x_goto (tgt := 75) dX4_load_116 (by decide) ?_
      refine x_perm [1, 2, 3, 4, 0] rfl ?_
      exact H
def L_X4_write_57 (d : Nat) (P : Int32 → Hp → Prop) (h : Hp) (r0 : Nat) (r2 : Nat) (i3 : Int32) (i4 : Int32) : Prop := X (KM (some .int) (fun r h' => ∃ x, r = some (.int x) ∧ P x h')) RX4 cX4_write 6 (d + 1) h 57 [(0, .ref r0), (2, .ref r2), (3, .int i3), (4, .int i4)] []
def L_X4_write_66 (d : Nat) (P : Int32 → Hp → Prop) (h : Hp) (r0 : Nat) (r2 : Nat) (i3 : Int32) (i4 : Int32) (i5 : Int32) : Prop := X (KM (some .int) (fun r h' => ∃ x, r = some (.int x) ∧ P x h')) RX4 cX4_write 6 (d + 1) h 66 [(0, .ref r0), (2, .ref r2), (3, .int i3), (4, .int i4), (5, .int i5)] []
set_option maxRecDepth 20000 in
theorem e_X4_write {d : Nat} {P : Int32 → Hp → Prop} {h : Hp} {r0 : Nat} {i1 : Int32} (ho : r0 < 47 ∧ ∃ fs, h r0 = .inr (4, fs)) (H : CI M_X4_isSheet d [.int i1] h (fun x2 h1 => ((¬ x2 = 0 → ∃ q3, gR h1 4 r0 4 = some q3 ∧ ∃ q4, lQ 3 h1 q3 i1 = some q4 ∧ ∃ q5, gR h1 4 r0 0 = some q5 ∧ ∃ x6, gI h1 3 q5 1 = some x6 ∧ ∃ x7, gI h1 1 q4 1 = some x7 ∧ ((x7 = 0 → ∃ x8, gI h1 1 q4 3 = some x8 ∧ (((x6 * x6) ≤ x8 → L_X4_write_57 d P h1 r0 q4 x6 (0 : Int32)) ∧
      (¬ (x6 * x6) ≤ x8 → CI M_X4_findingOf d [.ref r0, .int (2 : Int32)] h1 (fun x10 h9 => P x10 h9)))) ∧
    (¬ x7 = 0 → CI M_X4_findingOf d [.ref r0, .int (1 : Int32)] h1 (fun x12 h11 => P x12 h11)))) ∧
  (x2 = 0 → P (-2 : Int32) h1)))) : CI M_X4_write (d + 1) [.ref r0, .int i1] h P := by
  refine ⟨⟨r0, rfl, ho⟩, x_enter (by decide) (Nat.le_of_ble_eq_true rfl) ?_⟩
  show X (KM (some .int) (fun r h' => ∃ x, r = some (.int x) ∧ P x h')) RX4 cX4_write 6 (d + 1) h 0 [(0, .ref r0), (1, .int i1)] []
  refine x_iload_n dX4_write_0 rfl 1 rfl ?_
  refine x_sI sl_X4_177 dX4_write_1 (As := [.int i1]) rfl rfl (Nat.le_of_ble_eq_true rfl) (CI.mono H (fun x2 h1 H => ?_))
  refine x_if_ne (tgt := 10) dX4_write_4 (by decide) (fun c => ?_) (fun c => ?_)
  · replace H := H.1 c
    refine x_aload_n dX4_write_10 rfl 0 rfl ?_
    obtain ⟨q3, eq3, H⟩ := H
    refine x_getR fl_X4_35 dX4_write_11 eq3 ?_
    refine x_iload_n dX4_write_14 rfl 1 rfl ?_
    obtain ⟨q4, eq4, H⟩ := H
    refine x_aaload3 dX4_write_15 eq4 ?_
    refine x_astore_n dX4_write_16 rfl (by decide) (lv' := [(2, .ref q4), (0, .ref r0), (1, .int i1)]) rfl ?_
    refine x_aload_n dX4_write_17 rfl 1 rfl ?_
    obtain ⟨q5, eq5, H⟩ := H
    refine x_getR fl_X4_10 dX4_write_18 eq5 ?_
    obtain ⟨x6, ex6, H⟩ := H
    refine x_getI fl_X4_51 dX4_write_21 ex6 ?_
    refine x_istore_n dX4_write_24 rfl (by decide) (lv' := [(3, .int x6), (2, .ref q4), (0, .ref r0), (1, .int i1)]) rfl ?_
    refine x_aload_n dX4_write_25 rfl 1 rfl ?_
    obtain ⟨x7, ex7, H⟩ := H
    refine x_getI fl_X4_188 dX4_write_26 ex7 ?_
    refine x_if_eq (tgt := 38) dX4_write_29 (by decide) (fun c => ?_) (fun c => ?_)
    · replace H := H.1 c
      refine x_aload_n dX4_write_38 rfl 1 rfl ?_
      obtain ⟨x8, ex8, H⟩ := H
      refine x_getI fl_X4_192 dX4_write_39 ex8 ?_
      refine x_iload_n dX4_write_42 rfl 0 rfl ?_
      refine x_iload_n dX4_write_43 rfl 0 rfl ?_
      refine x_imul dX4_write_44 ?_
      refine x_icmp_ge (tgt := 54) dX4_write_45 (by decide) (fun c => ?_) (fun c => ?_)
      · replace H := H.1 c
        refine x_iconst (v := (0 : Int32)) dX4_write_54 (by decide) ?_
        refine x_istore dX4_write_55 (by decide) (lv' := [(4, .int (0 : Int32)), (3, .int x6), (2, .ref q4), (0, .ref r0), (1, .int i1)]) rfl ?_
        refine x_perm [3, 2, 1, 0] rfl ?_
        exact H
      · replace H := H.2 c
        refine x_aload_n dX4_write_48 rfl 2 rfl ?_
        refine x_iconst (v := (2 : Int32)) dX4_write_49 (by decide) ?_
        refine x_vI vl_X4_183 dX4_write_50 (As := [.int (2 : Int32)]) rfl rfl (Nat.le_of_ble_eq_true rfl) (CI.mono H (fun x10 h9 H => ?_))
        exact x_iret dX4_write_53 ⟨_, rfl, H⟩
    · replace H := H.2 c
      refine x_aload_n dX4_write_32 rfl 2 rfl ?_
      refine x_iconst (v := (1 : Int32)) dX4_write_33 (by decide) ?_
      refine x_vI vl_X4_183 dX4_write_34 (As := [.int (1 : Int32)]) rfl rfl (Nat.le_of_ble_eq_true rfl) (CI.mono H (fun x12 h11 H => ?_))
      exact x_iret dX4_write_37 ⟨_, rfl, H⟩
  · replace H := H.2 c
    refine x_bipush (v := (-2 : Int32)) dX4_write_7 (by decide) ?_
    exact x_iret dX4_write_9 ⟨_, rfl, H⟩
set_option maxRecDepth 20000 in
theorem r_X4_write_57 {d : Nat} {P : Int32 → Hp → Prop} {h : Hp} {r0 : Nat} {r2 : Nat} {i3 : Int32} {i4 : Int32} (H : ((i3 ≤ i4 → P (i3 * i3) h) ∧
  (¬ i3 ≤ i4 → L_X4_write_66 d P h r0 r2 i3 i4 (0 : Int32)))) : L_X4_write_57 d P h r0 r2 i3 i4 := by
  show X (KM (some .int) (fun r h' => ∃ x, r = some (.int x) ∧ P x h')) RX4 cX4_write 6 (d + 1) h 57 [(0, .ref r0), (2, .ref r2), (3, .int i3), (4, .int i4)] []
  refine x_iload dX4_write_57 3 rfl ?_
  refine x_iload_n dX4_write_59 rfl 2 rfl ?_
  refine x_icmp_ge (tgt := 106) dX4_write_60 (by decide) (fun c => ?_) (fun c => ?_)
  · replace H := H.1 c
    refine x_iload_n dX4_write_106 rfl 2 rfl ?_
    refine x_iload_n dX4_write_107 rfl 2 rfl ?_
    refine x_imul dX4_write_108 ?_
    exact x_iret dX4_write_109 ⟨_, rfl, H⟩
  · replace H := H.2 c
    refine x_iconst (v := (0 : Int32)) dX4_write_63 (by decide) ?_
    refine x_istore dX4_write_64 (by decide) (lv' := [(5, .int (0 : Int32)), (0, .ref r0), (2, .ref r2), (3, .int i3), (4, .int i4)]) rfl ?_
    refine x_perm [1, 2, 3, 4, 0] rfl ?_
    exact H
set_option maxRecDepth 20000 in
theorem r_X4_write_66 {d : Nat} {P : Int32 → Hp → Prop} {h : Hp} {r0 : Nat} {r2 : Nat} {i3 : Int32} {i4 : Int32} {i5 : Int32} (H : ((i3 ≤ i5 → L_X4_write_57 d P h r0 r2 i3 (i4 + (1 : Int32))) ∧
  (¬ i3 ≤ i5 → ∃ q1, gR h 4 r0 0 = some q1 ∧ CI M_X3_entry d [.ref q1, .int i4, .int i5] h (fun x3 h2 => CV M_X1_setItem d [.ref r2, .int ((i3 * i4) + i5), .int x3] h2 (fun h4 => L_X4_write_66 d P h4 r0 r2 i3 i4 (i5 + (1 : Int32))))))) : L_X4_write_66 d P h r0 r2 i3 i4 i5 := by
  show X (KM (some .int) (fun r h' => ∃ x, r = some (.int x) ∧ P x h')) RX4 cX4_write 6 (d + 1) h 66 [(0, .ref r0), (2, .ref r2), (3, .int i3), (4, .int i4), (5, .int i5)] []
  refine x_iload dX4_write_66 4 rfl ?_
  refine x_iload_n dX4_write_68 rfl 2 rfl ?_
  refine x_icmp_ge (tgt := 100) dX4_write_69 (by decide) (fun c => ?_) (fun c => ?_)
  · replace H := H.1 c
    refine x_iinc (q := 3) (v := (i4 + (1 : Int32))) dX4_write_100 rfl rfl (by decide) (lv' := [(4, .int (i4 + (1 : Int32))), (0, .ref r0), (2, .ref r2), (3, .int i3), (5, .int i5)]) rfl ?_
    refine x_goto (tgt := 57) dX4_write_103 (by decide) ?_
    refine x_perm [1, 2, 3, 0] rfl ?_
    exact H
  · replace H := H.2 c
    refine x_aload_n dX4_write_72 rfl 1 rfl ?_
    refine x_iload_n dX4_write_73 rfl 2 rfl ?_
    refine x_iload dX4_write_74 3 rfl ?_
    refine x_imul dX4_write_76 ?_
    refine x_iload dX4_write_77 4 rfl ?_
    refine x_iadd dX4_write_79 ?_
    refine x_aload_n dX4_write_80 rfl 0 rfl ?_
    obtain ⟨q1, eq1, H⟩ := H
    refine x_getR fl_X4_10 dX4_write_81 eq1 ?_
    refine x_iload dX4_write_84 3 rfl ?_
    refine x_iload dX4_write_86 4 rfl ?_
    refine x_vI vl_X4_62 dX4_write_88 (As := [.int i4, .int i5]) rfl rfl (Nat.le_of_ble_eq_true rfl) (CI.mono H (fun x3 h2 H => ?_))
    refine x_vV vl_X4_196 dX4_write_91 (As := [.int ((i3 * i4) + i5), .int x3]) rfl rfl (Nat.le_of_ble_eq_true rfl) (CV.mono H (fun h4 H => ?_))
    refine x_iinc (q := 4) (v := (i5 + (1 : Int32))) dX4_write_94 rfl rfl (by decide) (lv' := [(5, .int (i5 + (1 : Int32))), (0, .ref r0), (2, .ref r2), (3, .int i3), (4, .int i4)]) rfl ?_
    refine x_goto (tgt := 66) dX4_write_97 (by decide) ?_
    refine x_perm [1, 2, 3, 4, 0] rfl ?_
    exact H
set_option maxRecDepth 20000 in
theorem e_X4_count {d : Nat} {P : Int32 → Hp → Prop} {h : Hp} {r0 : Nat} {i1 : Int32} (ho : r0 < 47 ∧ ∃ fs, h r0 = .inr (4, fs)) (H : ((i1 = nI 0 → ∃ q1, gR h 4 r0 0 = some q1 ∧ ∃ x2, gI h 3 q1 1 = some x2 ∧ P x2 h) ∧
  (i1 = nI 1 → ∃ x3, gI h 4 r0 5 = some x3 ∧ P x3 h) ∧
  (i1 = nI 2 → ∃ q4, gR h 4 r0 0 = some q4 ∧ CI M_X3_minusSigns d [.ref q4] h (fun x6 h5 => P x6 h5)) ∧
  (i1 = nI 3 → ∃ x7, gI h 4 r0 6 = some x7 ∧ P x7 h) ∧
  ((i1 < 0 ∨ nI 4 ≤ i1) → P (-2 : Int32) h))) : CI M_X4_count (d + 1) [.ref r0, .int i1] h P := by
  refine ⟨⟨r0, rfl, ho⟩, x_enter (by decide) (Nat.le_of_ble_eq_true rfl) ?_⟩
  show X (KM (some .int) (fun r h' => ∃ x, r = some (.int x) ∧ P x h')) RX4 cX4_count 2 (d + 1) h 0 [(0, .ref r0), (1, .int i1)] []
  refine x_iload_n dX4_count_0 rfl 1 rfl ?_
  refine x_tsw (n := 4) (offs := #[31, 39, 44, 52]) dX4_count_1 rfl (by decide) (fun j hj c => ?_) (fun c => ⟨58, by decide, ?_⟩)
  · match j, hj, c with
    | 0, _, c =>
      refine ⟨31, 32, rfl, by decide, ?_⟩
      replace H := H.1 c
      refine x_aload_n dX4_count_32 rfl 0 rfl ?_
      obtain ⟨q1, eq1, H⟩ := H
      refine x_getR fl_X4_10 dX4_count_33 eq1 ?_
      obtain ⟨x2, ex2, H⟩ := H
      refine x_getI fl_X4_51 dX4_count_36 ex2 ?_
      exact x_iret dX4_count_39 ⟨_, rfl, H⟩
    | 1, _, c =>
      refine ⟨39, 40, rfl, by decide, ?_⟩
      replace H := H.2.1 c
      refine x_aload_n dX4_count_40 rfl 0 rfl ?_
      obtain ⟨x3, ex3, H⟩ := H
      refine x_getI fl_X4_39 dX4_count_41 ex3 ?_
      exact x_iret dX4_count_44 ⟨_, rfl, H⟩
    | 2, _, c =>
      refine ⟨44, 45, rfl, by decide, ?_⟩
      replace H := H.2.2.1 c
      refine x_aload_n dX4_count_45 rfl 0 rfl ?_
      obtain ⟨q4, eq4, H⟩ := H
      refine x_getR fl_X4_10 dX4_count_46 eq4 ?_
      refine x_vI vl_X4_215 dX4_count_49 (As := []) rfl rfl (Nat.le_of_ble_eq_true rfl) (CI.mono H (fun x6 h5 H => ?_))
      exact x_iret dX4_count_52 ⟨_, rfl, H⟩
    | 3, _, c =>
      refine ⟨52, 53, rfl, by decide, ?_⟩
      replace H := H.2.2.2.1 c
      refine x_aload_n dX4_count_53 rfl 0 rfl ?_
      obtain ⟨x7, ex7, H⟩ := H
      refine x_getI fl_X4_43 dX4_count_54 ex7 ?_
      exact x_iret dX4_count_57 ⟨_, rfl, H⟩
    | k + 4, hk, _ => exact absurd hk (by omega)
  · replace H := H.2.2.2.2 c
    refine x_bipush (v := (-2 : Int32)) dX4_count_58 (by decide) ?_
    exact x_iret dX4_count_60 ⟨_, rfl, H⟩
def L_X4_digest_6 (d : Nat) (P : Int64 → Hp → Prop) (h : Hp) (r0 : Nat) (l1 : Int64) (i3 : Int32) : Prop := X (KM (some .long) (fun r h' => ∃ x, r = some (.long x) ∧ P x h')) RX4 cX4_digest 5 (d + 1) h 6 [(0, .ref r0), (1, .long l1), (3, .int i3)] []
def L_X4_digest_32 (d : Nat) (P : Int64 → Hp → Prop) (h : Hp) (r0 : Nat) (l1 : Int64) (i3 : Int32) : Prop := X (KM (some .long) (fun r h' => ∃ x, r = some (.long x) ∧ P x h')) RX4 cX4_digest 5 (d + 1) h 32 [(0, .ref r0), (1, .long l1), (3, .int i3)] []
def L_X4_digest_46 (d : Nat) (P : Int64 → Hp → Prop) (h : Hp) (r0 : Nat) (l1 : Int64) (i3 : Int32) (i4 : Int32) : Prop := X (KM (some .long) (fun r h' => ∃ x, r = some (.long x) ∧ P x h')) RX4 cX4_digest 5 (d + 1) h 46 [(0, .ref r0), (1, .long l1), (3, .int i3), (4, .int i4)] []
set_option maxRecDepth 20000 in
theorem e_X4_digest {d : Nat} {P : Int64 → Hp → Prop} {h : Hp} {r0 : Nat} (ho : r0 < 47 ∧ ∃ fs, h r0 = .inr (4, fs)) (H : L_X4_digest_6 d P h r0 (17 : Int64) (0 : Int32)) : CJ M_X4_digest (d + 1) [.ref r0] h P := by
  refine ⟨⟨r0, rfl, ho⟩, x_enter (by decide) (Nat.le_of_ble_eq_true rfl) ?_⟩
  show X (KM (some .long) (fun r h' => ∃ x, r = some (.long x) ∧ P x h')) RX4 cX4_digest 5 (d + 1) h 0 [(0, .ref r0)] []
  refine x_ldc2 (v := (17 : Int64)) (lw_gm (i := 522) (by decide +kernel) rfl) dX4_digest_0 ?_
  refine x_lstore_n dX4_digest_3 rfl (by decide) (lv' := [(1, .long (17 : Int64)), (0, .ref r0)]) rfl ?_
  refine x_iconst (v := (0 : Int32)) dX4_digest_4 (by decide) ?_
  refine x_istore_n dX4_digest_5 rfl (by decide) (lv' := [(3, .int (0 : Int32)), (1, .long (17 : Int64)), (0, .ref r0)]) rfl ?_
  refine x_perm [2, 1, 0] rfl ?_
  exact H
set_option maxRecDepth 20000 in
theorem r_X4_digest_6 {d : Nat} {P : Int64 → Hp → Prop} {h : Hp} {r0 : Nat} {l1 : Int64} {i3 : Int32} (H : (((2 : Int32) < i3 → L_X4_digest_32 d P h r0 l1 (0 : Int32)) ∧
  (¬ (2 : Int32) < i3 → CI M_X4_count d [.ref r0, .int i3] h (fun x2 h1 => L_X4_digest_6 d P h1 r0 (((31 : Int64) * l1) + x2.toInt64) (i3 + (1 : Int32)))))) : L_X4_digest_6 d P h r0 l1 i3 := by
  show X (KM (some .long) (fun r h' => ∃ x, r = some (.long x) ∧ P x h')) RX4 cX4_digest 5 (d + 1) h 6 [(0, .ref r0), (1, .long l1), (3, .int i3)] []
  refine x_iload_n dX4_digest_6 rfl 2 rfl ?_
  refine x_iconst (v := (2 : Int32)) dX4_digest_7 (by decide) ?_
  refine x_icmp_gt (tgt := 30) dX4_digest_8 (by decide) (fun c => ?_) (fun c => ?_)
  · replace H := H.1 c
    refine x_iconst (v := (0 : Int32)) dX4_digest_30 (by decide) ?_
    refine x_istore_n dX4_digest_31 rfl (by decide) (lv' := [(3, .int (0 : Int32)), (0, .ref r0), (1, .long l1)]) rfl ?_
    refine x_perm [1, 2, 0] rfl ?_
    exact H
  · replace H := H.2 c
    refine x_ldc2 (v := (31 : Int64)) (lw_gm (i := 523) (by decide +kernel) rfl) dX4_digest_11 ?_
    refine x_lload_n dX4_digest_14 rfl 1 rfl ?_
    refine x_lmul dX4_digest_15 ?_
    refine x_aload_n dX4_digest_16 rfl 0 rfl ?_
    refine x_iload_n dX4_digest_17 rfl 2 rfl ?_
    refine x_vI vl_X4_222 dX4_digest_18 (As := [.int i3]) rfl rfl (Nat.le_of_ble_eq_true rfl) (CI.mono H (fun x2 h1 H => ?_))
    refine x_i2l dX4_digest_21 ?_
    refine x_ladd dX4_digest_22 ?_
    refine x_lstore_n dX4_digest_23 rfl (by decide) (lv' := [(1, .long (((31 : Int64) * l1) + x2.toInt64)), (0, .ref r0), (3, .int i3)]) rfl ?_
    refine x_iinc (q := 2) (v := (i3 + (1 : Int32))) dX4_digest_24 rfl rfl (by decide) (lv' := [(3, .int (i3 + (1 : Int32))), (1, .long (((31 : Int64) * l1) + x2.toInt64)), (0, .ref r0)]) rfl ?_
    refine x_goto (tgt := 6) dX4_digest_27 (by decide) ?_
    refine x_perm [2, 1, 0] rfl ?_
    exact H
set_option maxRecDepth 20000 in
theorem r_X4_digest_32 {d : Nat} {P : Int64 → Hp → Prop} {h : Hp} {r0 : Nat} {l1 : Int64} {i3 : Int32} (H : ∃ q1, gR h 4 r0 0 = some q1 ∧ ∃ x2, gI h 3 q1 1 = some x2 ∧ ((x2 ≤ i3 → CI M_X4_odd d [.ref r0] h (fun x4 h3 => P (((31 : Int64) * l1) + x4.toInt64) h3)) ∧
  (¬ x2 ≤ i3 → L_X4_digest_46 d P h r0 l1 i3 (0 : Int32)))) : L_X4_digest_32 d P h r0 l1 i3 := by
  show X (KM (some .long) (fun r h' => ∃ x, r = some (.long x) ∧ P x h')) RX4 cX4_digest 5 (d + 1) h 32 [(0, .ref r0), (1, .long l1), (3, .int i3)] []
  refine x_iload_n dX4_digest_32 rfl 2 rfl ?_
  refine x_aload_n dX4_digest_33 rfl 0 rfl ?_
  obtain ⟨q1, eq1, H⟩ := H
  refine x_getR fl_X4_10 dX4_digest_34 eq1 ?_
  obtain ⟨x2, ex2, H⟩ := H
  refine x_getI fl_X4_51 dX4_digest_37 ex2 ?_
  refine x_icmp_ge (tgt := 88) dX4_digest_40 (by decide) (fun c => ?_) (fun c => ?_)
  · replace H := H.1 c
    refine x_ldc2 (v := (31 : Int64)) (lw_gm (i := 523) (by decide +kernel) rfl) dX4_digest_88 ?_
    refine x_lload_n dX4_digest_91 rfl 1 rfl ?_
    refine x_lmul dX4_digest_92 ?_
    refine x_aload_n dX4_digest_93 rfl 0 rfl ?_
    refine x_vI vl_X4_225 dX4_digest_94 (As := []) rfl rfl (Nat.le_of_ble_eq_true rfl) (CI.mono H (fun x4 h3 H => ?_))
    refine x_i2l dX4_digest_97 ?_
    refine x_ladd dX4_digest_98 ?_
    exact x_lret dX4_digest_99 ⟨_, rfl, H⟩
  · replace H := H.2 c
    refine x_iconst (v := (0 : Int32)) dX4_digest_43 (by decide) ?_
    refine x_istore dX4_digest_44 (by decide) (lv' := [(4, .int (0 : Int32)), (0, .ref r0), (1, .long l1), (3, .int i3)]) rfl ?_
    refine x_perm [1, 2, 3, 0] rfl ?_
    exact H
set_option maxRecDepth 20000 in
theorem r_X4_digest_46 {d : Nat} {P : Int64 → Hp → Prop} {h : Hp} {r0 : Nat} {l1 : Int64} {i3 : Int32} {i4 : Int32} (H : ∃ q1, gR h 4 r0 0 = some q1 ∧ ∃ x2, gI h 3 q1 1 = some x2 ∧ ((x2 ≤ i4 → L_X4_digest_32 d P h r0 l1 (i3 + (1 : Int32))) ∧
  (¬ x2 ≤ i4 → ∃ q3, gR h 4 r0 0 = some q3 ∧ CI M_X3_entry d [.ref q3, .int i3, .int i4] h (fun x5 h4 => L_X4_digest_46 d P h4 r0 (((31 : Int64) * l1) + x5.toInt64) i3 (i4 + (1 : Int32)))))) : L_X4_digest_46 d P h r0 l1 i3 i4 := by
  show X (KM (some .long) (fun r h' => ∃ x, r = some (.long x) ∧ P x h')) RX4 cX4_digest 5 (d + 1) h 46 [(0, .ref r0), (1, .long l1), (3, .int i3), (4, .int i4)] []
  refine x_iload dX4_digest_46 3 rfl ?_
  refine x_aload_n dX4_digest_48 rfl 0 rfl ?_
  obtain ⟨q1, eq1, H⟩ := H
  refine x_getR fl_X4_10 dX4_digest_49 eq1 ?_
  obtain ⟨x2, ex2, H⟩ := H
  refine x_getI fl_X4_51 dX4_digest_52 ex2 ?_
  refine x_icmp_ge (tgt := 82) dX4_digest_55 (by decide) (fun c => ?_) (fun c => ?_)
  · replace H := H.1 c
    refine x_iinc (q := 2) (v := (i3 + (1 : Int32))) dX4_digest_82 rfl rfl (by decide) (lv' := [(3, .int (i3 + (1 : Int32))), (0, .ref r0), (1, .long l1), (4, .int i4)]) rfl ?_
    refine x_goto (tgt := 32) dX4_digest_85 (by decide) ?_
    refine x_perm [1, 2, 0] rfl ?_
    exact H
  · replace H := H.2 c
    refine x_ldc2 (v := (31 : Int64)) (lw_gm (i := 523) (by decide +kernel) rfl) dX4_digest_58 ?_
    refine x_lload_n dX4_digest_61 rfl 1 rfl ?_
    refine x_lmul dX4_digest_62 ?_
    refine x_aload_n dX4_digest_63 rfl 0 rfl ?_
    obtain ⟨q3, eq3, H⟩ := H
    refine x_getR fl_X4_10 dX4_digest_64 eq3 ?_
    refine x_iload_n dX4_digest_67 rfl 2 rfl ?_
    refine x_iload dX4_digest_68 3 rfl ?_
    refine x_vI vl_X4_62 dX4_digest_70 (As := [.int i3, .int i4]) rfl rfl (Nat.le_of_ble_eq_true rfl) (CI.mono H (fun x5 h4 H => ?_))
    refine x_i2l dX4_digest_73 ?_
    refine x_ladd dX4_digest_74 ?_
    refine x_lstore_n dX4_digest_75 rfl (by decide) (lv' := [(1, .long (((31 : Int64) * l1) + x5.toInt64)), (0, .ref r0), (3, .int i3), (4, .int i4)]) rfl ?_
    refine x_iinc (q := 3) (v := (i4 + (1 : Int32))) dX4_digest_76 rfl rfl (by decide) (lv' := [(4, .int (i4 + (1 : Int32))), (1, .long (((31 : Int64) * l1) + x5.toInt64)), (0, .ref r0), (3, .int i3)]) rfl ?_
    refine x_goto (tgt := 46) dX4_digest_79 (by decide) ?_
    refine x_perm [2, 1, 3, 0] rfl ?_
    exact H
set_option maxRecDepth 20000 in
theorem e_X4_isSheet {d : Nat} {P : Int32 → Hp → Prop} {h : Hp} {i0 : Int32} (H : ((i0 < 0 → P (0 : Int32) h) ∧
  (¬ i0 < 0 → (((4 : Int32) ≤ i0 → P (0 : Int32) h) ∧
    (¬ (4 : Int32) ≤ i0 → P (1 : Int32) h))))) : CI M_X4_isSheet (d + 1) [.int i0] h P := by
  refine ⟨trivial, x_enter (by decide) (Nat.le_of_ble_eq_true rfl) ?_⟩
  show X (KM (some .boolean) (fun r h' => ∃ x, r = some (.int x) ∧ P x h')) RX4 cX4_isSheet 1 (d + 1) h 0 [(0, .int i0)] []
  refine x_iload_n dX4_isSheet_0 rfl 0 rfl ?_
  refine x_if_lt (tgt := 13) dX4_isSheet_1 (by decide) (fun c => ?_) (fun c => ?_)
  · replace H := H.1 c
    refine x_iconst (v := (0 : Int32)) dX4_isSheet_13 (by decide) ?_
    exact x_zret dX4_isSheet_14 (by decide) ⟨_, rfl, H⟩
  · replace H := H.2 c
    refine x_iload_n dX4_isSheet_4 rfl 0 rfl ?_
    refine x_iconst (v := (4 : Int32)) dX4_isSheet_5 (by decide) ?_
    refine x_icmp_ge (tgt := 13) dX4_isSheet_6 (by decide) (fun c => ?_) (fun c => ?_)
    · replace H := H.1 c
      refine x_iconst (v := (0 : Int32)) dX4_isSheet_13 (by decide) ?_
      exact x_zret dX4_isSheet_14 (by decide) ⟨_, rfl, H⟩
    · replace H := H.2 c
      refine x_iconst (v := (1 : Int32)) dX4_isSheet_9 (by decide) ?_
      refine x_goto (tgt := 14) dX4_isSheet_10 (by decide) ?_
      exact x_zret dX4_isSheet_14 (by decide) ⟨_, rfl, H⟩
set_option maxRecDepth 20000 in
theorem e_X4_isForm {d : Nat} {P : Int32 → Hp → Prop} {h : Hp} {i0 : Int32} (H : ((i0 < 0 → P (0 : Int32) h) ∧
  (¬ i0 < 0 → (((2 : Int32) < i0 → P (0 : Int32) h) ∧
    (¬ (2 : Int32) < i0 → P (1 : Int32) h))))) : CI M_X4_isForm (d + 1) [.int i0] h P := by
  refine ⟨trivial, x_enter (by decide) (Nat.le_of_ble_eq_true rfl) ?_⟩
  show X (KM (some .boolean) (fun r h' => ∃ x, r = some (.int x) ∧ P x h')) RX4 cX4_isForm 1 (d + 1) h 0 [(0, .int i0)] []
  refine x_iload_n dX4_isForm_0 rfl 0 rfl ?_
  refine x_if_lt (tgt := 13) dX4_isForm_1 (by decide) (fun c => ?_) (fun c => ?_)
  · replace H := H.1 c
    refine x_iconst (v := (0 : Int32)) dX4_isForm_13 (by decide) ?_
    exact x_zret dX4_isForm_14 (by decide) ⟨_, rfl, H⟩
  · replace H := H.2 c
    refine x_iload_n dX4_isForm_4 rfl 0 rfl ?_
    refine x_iconst (v := (2 : Int32)) dX4_isForm_5 (by decide) ?_
    refine x_icmp_gt (tgt := 13) dX4_isForm_6 (by decide) (fun c => ?_) (fun c => ?_)
    · replace H := H.1 c
      refine x_iconst (v := (0 : Int32)) dX4_isForm_13 (by decide) ?_
      exact x_zret dX4_isForm_14 (by decide) ⟨_, rfl, H⟩
    · replace H := H.2 c
      refine x_iconst (v := (1 : Int32)) dX4_isForm_9 (by decide) ?_
      refine x_goto (tgt := 14) dX4_isForm_10 (by decide) ?_
      exact x_zret dX4_isForm_14 (by decide) ⟨_, rfl, H⟩
set_option maxRecDepth 20000 in
theorem e_X4_findingOf {d : Nat} {P : Int32 → Hp → Prop} {h : Hp} {r0 : Nat} {i1 : Int32} (ho : r0 < 47 ∧ ∃ fs, h r0 = .inr (4, fs)) (H : ∃ h1, sF h 4 r0 6 (.int i1) = some h1 ∧ P ((-10 : Int32) - i1) h1) : CI M_X4_findingOf (d + 1) [.ref r0, .int i1] h P := by
  refine ⟨⟨r0, rfl, ho⟩, x_enter (by decide) (Nat.le_of_ble_eq_true rfl) ?_⟩
  show X (KM (some .int) (fun r h' => ∃ x, r = some (.int x) ∧ P x h')) RX4 cX4_findingOf 2 (d + 1) h 0 [(0, .ref r0), (1, .int i1)] []
  refine x_aload_n dX4_findingOf_0 rfl 0 rfl ?_
  refine x_iload_n dX4_findingOf_1 rfl 1 rfl ?_
  obtain ⟨h1, eh1, H⟩ := H
  refine x_putI fp_X4_43 rfl rfl dX4_findingOf_2 eh1 ?_
  refine x_bipush (v := (-10 : Int32)) dX4_findingOf_5 (by decide) ?_
  refine x_iload_n dX4_findingOf_7 rfl 1 rfl ?_
  refine x_isub dX4_findingOf_8 ?_
  exact x_iret dX4_findingOf_9 ⟨_, rfl, H⟩
