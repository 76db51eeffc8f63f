def L_X1_start_17 (d : Nat) (P : Hp → Prop) (h : Hp) (r0 : Nat) (i2 : Int32) (i3 : Int32) : Prop := X (KM (none) (fun r h' => r = none ∧ P h')) RX1 cX1_start 4 (d + 1) h 17 [(0, .ref r0), (2, .int i2), (3, .int i3)] []
set_option maxRecDepth 20000 in
theorem e_X1_start {d : Nat} {P : Hp → Prop} {h : Hp} {r0 : Nat} {i1 : Int32} {i2 : Int32} (ho : r0 < 47 ∧ ∃ fs, h r0 = .inr (1, fs)) (H : ∃ h1, sF h 1 r0 1 (.int (0 : Int32)) = some h1 ∧ ∃ h2, sF h1 1 r0 2 (.int i1) = some h2 ∧ ∃ h3, sF h2 1 r0 3 (.int i2) = some h3 ∧ L_X1_start_17 d P h3 r0 i2 (0 : Int32)) : CV M_X1_start (d + 1) [.ref r0, .int i1, .int i2] h P := by
  refine ⟨⟨r0, rfl, ho⟩, x_enter (by decide) (Nat.le_of_ble_eq_true rfl) ?_⟩
  show X (KM (none) (fun r h' => r = none ∧ P h')) RX1 cX1_start 4 (d + 1) h 0 [(0, .ref r0), (1, .int i1), (2, .int i2)] []
  refine x_aload_n dX1_start_0 rfl 0 rfl ?_
  refine x_iconst (v := (0 : Int32)) dX1_start_1 (by decide) ?_
  obtain ⟨h1, eh1, H⟩ := H
  refine x_putI fp_X1_15 rfl rfl dX1_start_2 eh1 ?_
  refine x_aload_n dX1_start_5 rfl 0 rfl ?_
  refine x_iload_n dX1_start_6 rfl 1 rfl ?_
  obtain ⟨h2, eh2, H⟩ := H
  refine x_putI fp_X1_19 rfl rfl dX1_start_7 eh2 ?_
  refine x_aload_n dX1_start_10 rfl 0 rfl ?_
  refine x_iload_n dX1_start_11 rfl 2 rfl ?_
  obtain ⟨h3, eh3, H⟩ := H
  refine x_putI fp_X1_23 rfl rfl dX1_start_12 eh3 ?_
  refine x_iconst (v := (0 : Int32)) dX1_start_15 (by decide) ?_
  refine x_istore_n dX1_start_16 rfl (by decide) (lv' := [(3, .int (0 : Int32)), (0, .ref r0), (1, .int i1), (2, .int i2)]) rfl ?_
  refine x_perm [1, 3, 0] rfl ?_
  exact H
set_option maxRecDepth 20000 in
theorem r_X1_start_17 {d : Nat} {P : Hp → Prop} {h : Hp} {r0 : Nat} {i2 : Int32} {i3 : Int32} (H : ((i2 ≤ i3 → P h) ∧
  (¬ i2 ≤ i3 → ∃ q1, gR h 1 r0 0 = some q1 ∧ ∃ h2, sI h q1 i3 (0 : Int32) = some h2 ∧ L_X1_start_17 d P h2 r0 i2 (i3 + (1 : Int32))))) : L_X1_start_17 d P h r0 i2 i3 := by
  show X (KM (none) (fun r h' => r = none ∧ P h')) RX1 cX1_start 4 (d + 1) h 17 [(0, .ref r0), (2, .int i2), (3, .int i3)] []
  refine x_iload_n dX1_start_17 rfl 2 rfl ?_
  refine x_iload_n dX1_start_18 rfl 1 rfl ?_
  refine x_icmp_ge (tgt := 35) dX1_start_19 (by decide) (fun c => ?_) (fun c => ?_)
  · replace H := H.1 c
    exact x_vret dX1_start_35 ⟨rfl, H⟩
  · replace H := H.2 c
    refine x_aload_n dX1_start_22 rfl 0 rfl ?_
    obtain ⟨q1, eq1, H⟩ := H
    refine x_getR fl_X1_9 dX1_start_23 eq1 ?_
    refine x_iload_n dX1_start_26 rfl 2 rfl ?_
    refine x_iconst (v := (0 : Int32)) dX1_start_27 (by decide) ?_
    obtain ⟨h2, eh2, H⟩ := H
    refine x_iastore dX1_start_28 eh2 ?_
    refine x_iinc (q := 2) (v := (i3 + (1 : Int32))) dX1_start_29 rfl rfl (by decide) (lv' := [(3, .int (i3 + (1 : Int32))), (0, .ref r0), (2, .int i2)]) rfl ?_
    refine x_goto (tgt := 17) dX1_start_32 (by decide) ?_
    refine x_perm [1, 2, 0] rfl ?_
    exact H
set_option maxRecDepth 20000 in
theorem e_X1_hasItems {d : Nat} {P : Int32 → Hp → Prop} {h : Hp} {r0 : Nat} {i1 : Int32} {i2 : Int32} (ho : r0 < 47 ∧ ∃ fs, h r0 = .inr (1, fs)) (H : ((i1 < 0 → P (0 : Int32) h) ∧
  (¬ i1 < 0 → ((i2 < 0 → P (0 : Int32) h) ∧
    (¬ i2 < 0 → ∃ x1, gI h 1 r0 3 = some x1 ∧ ((x1 < i2 → P (0 : Int32) h) ∧
      (¬ x1 < i2 → ∃ x2, gI h 1 r0 3 = some x2 ∧ (((x2 - i2) < i1 → P (0 : Int32) h) ∧
        (¬ (x2 - i2) < i1 → P (1 : Int32) h))))))))) : CI M_X1_hasItems (d + 1) [.ref r0, .int i1, .int i2] h P := by
  refine ⟨⟨r0, rfl, ho⟩, x_enter (by decide) (Nat.le_of_ble_eq_true rfl) ?_⟩
  show X (KM (some .boolean) (fun r h' => ∃ x, r = some (.int x) ∧ P x h')) RX1 cX1_hasItems 3 (d + 1) h 0 [(0, .ref r0), (1, .int i1), (2, .int i2)] []
  refine x_iload_n dX1_hasItems_0 rfl 1 rfl ?_
  refine x_if_lt (tgt := 30) dX1_hasItems_1 (by decide) (fun c => ?_) (fun c => ?_)
  · replace H := H.1 c
    refine x_iconst (v := (0 : Int32)) dX1_hasItems_30 (by decide) ?_
    exact x_zret dX1_hasItems_31 (by decide) ⟨_, rfl, H⟩
  · replace H := H.2 c
    refine x_iload_n dX1_hasItems_4 rfl 2 rfl ?_
    refine x_if_lt (tgt := 30) dX1_hasItems_5 (by decide) (fun c => ?_) (fun c => ?_)
    · replace H := H.1 c
      refine x_iconst (v := (0 : Int32)) dX1_hasItems_30 (by decide) ?_
      exact x_zret dX1_hasItems_31 (by decide) ⟨_, rfl, H⟩
    · replace H := H.2 c
      refine x_iload_n dX1_hasItems_8 rfl 2 rfl ?_
      refine x_aload_n dX1_hasItems_9 rfl 0 rfl ?_
      obtain ⟨x1, ex1, H⟩ := H
      refine x_getI fl_X1_23 dX1_hasItems_10 ex1 ?_
      refine x_icmp_gt (tgt := 30) dX1_hasItems_13 (by decide) (fun c => ?_) (fun c => ?_)
      · replace H := H.1 c
        refine x_iconst (v := (0 : Int32)) dX1_hasItems_30 (by decide) ?_
        exact x_zret dX1_hasItems_31 (by decide) ⟨_, rfl, H⟩
      · replace H := H.2 c
        refine x_iload_n dX1_hasItems_16 rfl 1 rfl ?_
        refine x_aload_n dX1_hasItems_17 rfl 0 rfl ?_
        obtain ⟨x2, ex2, H⟩ := H
        refine x_getI fl_X1_23 dX1_hasItems_18 ex2 ?_
        refine x_iload_n dX1_hasItems_21 rfl 2 rfl ?_
        refine x_isub dX1_hasItems_22 ?_
        refine x_icmp_gt (tgt := 30) dX1_hasItems_23 (by decide) (fun c => ?_) (fun c => ?_)
        · replace H := H.1 c
          refine x_iconst (v := (0 : Int32)) dX1_hasItems_30 (by decide) ?_
          exact x_zret dX1_hasItems_31 (by decide) ⟨_, rfl, H⟩
        · replace H := H.2 c
          refine x_iconst (v := (1 : Int32)) dX1_hasItems_26 (by decide) ?_
          refine x_goto (tgt := 31) dX1_hasItems_27 (by decide) ?_
          exact x_zret dX1_hasItems_31 (by decide) ⟨_, rfl, H⟩
set_option maxRecDepth 20000 in
theorem e_X1_wrongWithItem {d : Nat} {P : Int32 → Hp → Prop} {h : Hp} {r0 : Nat} {i1 : Int32} {i2 : Int32} (ho : r0 < 47 ∧ ∃ fs, h r0 = .inr (1, fs)) (H : ∃ x1, gI h 1 r0 1 = some x1 ∧ ((x1 = 0 → ∃ x2, gI h 1 r0 2 = some x2 ∧ ((x2 = i1 → ((i2 < 0 → P (2 : Int32) h) ∧
      (¬ i2 < 0 → ∃ x3, gI h 1 r0 3 = some x3 ∧ ((x3 ≤ i2 → P (2 : Int32) h) ∧
        (¬ x3 ≤ i2 → P (0 : Int32) h))))) ∧
    (¬ x2 = i1 → P (3 : Int32) h))) ∧
  (¬ x1 = 0 → P (1 : Int32) h))) : CI M_X1_wrongWithItem (d + 1) [.ref r0, .int i1, .int i2] h P := by
  refine ⟨⟨r0, rfl, ho⟩, x_enter (by decide) (Nat.le_of_ble_eq_true rfl) ?_⟩
  show X (KM (some .int) (fun r h' => ∃ x, r = some (.int x) ∧ P x h')) RX1 cX1_wrongWithItem 3 (d + 1) h 0 [(0, .ref r0), (1, .int i1), (2, .int i2)] []
  refine x_aload_n dX1_wrongWithItem_0 rfl 0 rfl ?_
  obtain ⟨x1, ex1, H⟩ := H
  refine x_getI fl_X1_15 dX1_wrongWithItem_1 ex1 ?_
  refine x_if_eq (tgt := 9) dX1_wrongWithItem_4 (by decide) (fun c => ?_) (fun c => ?_)
  · replace H := H.1 c
    refine x_aload_n dX1_wrongWithItem_9 rfl 0 rfl ?_
    obtain ⟨x2, ex2, H⟩ := H
    refine x_getI fl_X1_19 dX1_wrongWithItem_10 ex2 ?_
    refine x_iload_n dX1_wrongWithItem_13 rfl 1 rfl ?_
    refine x_icmp_eq (tgt := 19) dX1_wrongWithItem_14 (by decide) (fun c => ?_) (fun c => ?_)
    · replace H := H.1 c
      refine x_iload_n dX1_wrongWithItem_19 rfl 2 rfl ?_
      refine x_if_lt (tgt := 35) dX1_wrongWithItem_20 (by decide) (fun c => ?_) (fun c => ?_)
      · replace H := H.1 c
        refine x_iconst (v := (2 : Int32)) dX1_wrongWithItem_35 (by decide) ?_
        exact x_iret dX1_wrongWithItem_36 ⟨_, rfl, H⟩
      · replace H := H.2 c
        refine x_iload_n dX1_wrongWithItem_23 rfl 2 rfl ?_
        refine x_aload_n dX1_wrongWithItem_24 rfl 0 rfl ?_
        obtain ⟨x3, ex3, H⟩ := H
        refine x_getI fl_X1_23 dX1_wrongWithItem_25 ex3 ?_
        refine x_icmp_ge (tgt := 35) dX1_wrongWithItem_28 (by decide) (fun c => ?_) (fun c => ?_)
        · replace H := H.1 c
          refine x_iconst (v := (2 : Int32)) dX1_wrongWithItem_35 (by decide) ?_
          exact x_iret dX1_wrongWithItem_36 ⟨_, rfl, H⟩
        · replace H := H.2 c
          refine x_iconst (v := (0 : Int32)) dX1_wrongWithItem_31 (by decide) ?_
          refine x_goto (tgt := 36) dX1_wrongWithItem_32 (by decide) ?_
          exact x_iret dX1_wrongWithItem_36 ⟨_, rfl, H⟩
    · replace H := H.2 c
      refine x_iconst (v := (3 : Int32)) dX1_wrongWithItem_17 (by decide) ?_
      exact x_iret dX1_wrongWithItem_18 ⟨_, rfl, H⟩
  · replace H := H.2 c
    refine x_iconst (v := (1 : Int32)) dX1_wrongWithItem_7 (by decide) ?_
    exact x_iret dX1_wrongWithItem_8 ⟨_, rfl, H⟩
set_option maxRecDepth 20000 in
theorem e_X1_setItem {d : Nat} {P : Hp → Prop} {h : Hp} {r0 : Nat} {i1 : Int32} {i2 : Int32} (ho : r0 < 47 ∧ ∃ fs, h r0 = .inr (1, fs)) (H : ∃ x1, gI h 1 r0 2 = some x1 ∧ ((¬ x1 = 0 → ∃ x2, gI h 1 r0 2 = some x2 ∧ ((¬ x2 = (1 : Int32) → ∃ q3, gR h 1 r0 0 = some q3 ∧ ∃ h4, sI h q3 i1 i2 = some h4 ∧ P h4) ∧
    (x2 = (1 : Int32) → ∃ q5, gR h 1 r0 0 = some q5 ∧ ∃ h6, sI h q5 i1 i2.toInt16.toInt32 = some h6 ∧ P h6))) ∧
  (x1 = 0 → ∃ q7, gR h 1 r0 0 = some q7 ∧ ∃ h8, sI h q7 i1 i2.toInt8.toInt32 = some h8 ∧ P h8))) : CV M_X1_setItem (d + 1) [.ref r0, .int i1, .int i2] h P := by
  refine ⟨⟨r0, rfl, ho⟩, x_enter (by decide) (Nat.le_of_ble_eq_true rfl) ?_⟩
  show X (KM (none) (fun r h' => r = none ∧ P h')) RX1 cX1_setItem 3 (d + 1) h 0 [(0, .ref r0), (1, .int i1), (2, .int i2)] []
  refine x_aload_n dX1_setItem_0 rfl 0 rfl ?_
  obtain ⟨x1, ex1, H⟩ := H
  refine x_getI fl_X1_19 dX1_setItem_1 ex1 ?_
  refine x_if_ne (tgt := 18) dX1_setItem_4 (by decide) (fun c => ?_) (fun c => ?_)
  · replace H := H.1 c
    refine x_aload_n dX1_setItem_18 rfl 0 rfl ?_
    obtain ⟨x2, ex2, H⟩ := H
    refine x_getI fl_X1_19 dX1_setItem_19 ex2 ?_
    refine x_iconst (v := (1 : Int32)) dX1_setItem_22 (by decide) ?_
    refine x_icmp_ne (tgt := 37) dX1_setItem_23 (by decide) (fun c => ?_) (fun c => ?_)
    · replace H := H.1 c
      refine x_aload_n dX1_setItem_37 rfl 0 rfl ?_
      obtain ⟨q3, eq3, H⟩ := H
      refine x_getR fl_X1_9 dX1_setItem_38 eq3 ?_
      refine x_iload_n dX1_setItem_41 rfl 1 rfl ?_
      refine x_iload_n dX1_setItem_42 rfl 2 rfl ?_
      obtain ⟨h4, eh4, H⟩ := H
      refine x_iastore dX1_setItem_43 eh4 ?_
      exact x_vret dX1_setItem_44 ⟨rfl, H⟩
    · replace H := H.2 c
      refine x_aload_n dX1_setItem_26 rfl 0 rfl ?_
      obtain ⟨q5, eq5, H⟩ := H
      refine x_getR fl_X1_9 dX1_setItem_27 eq5 ?_
      refine x_iload_n dX1_setItem_30 rfl 1 rfl ?_
      refine x_iload_n dX1_setItem_31 rfl 2 rfl ?_
      refine x_i2s dX1_setItem_32 ?_
      obtain ⟨h6, eh6, H⟩ := H
      refine x_iastore dX1_setItem_33 eh6 ?_
      refine x_goto (tgt := 44) dX1_setItem_34 (by decide) ?_
      exact x_vret dX1_setItem_44 ⟨rfl, H⟩
  · replace H := H.2 c
    refine x_aload_n dX1_setItem_7 rfl 0 rfl ?_
    obtain ⟨q7, eq7, H⟩ := H
    refine x_getR fl_X1_9 dX1_setItem_8 eq7 ?_
    refine x_iload_n dX1_setItem_11 rfl 1 rfl ?_
    refine x_iload_n dX1_setItem_12 rfl 2 rfl ?_
    refine x_i2b dX1_setItem_13 ?_
    obtain ⟨h8, eh8, H⟩ := H
    refine x_iastore dX1_setItem_14 eh8 ?_
    refine x_goto (tgt := 44) dX1_setItem_15 (by decide) ?_
    exact x_vret dX1_setItem_44 ⟨rfl, H⟩
