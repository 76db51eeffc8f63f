def L_X3_start_7 (d : Nat) (P : Hp → Prop) (h : Hp) (r0 : Nat) (i2 : Int32) : Prop := X (KM (none) (fun r h' => r = none ∧ P h')) RX3 cX3_start 3 (d + 1) h 7 [(0, .ref r0), (2, .int i2)] []
set_option maxRecDepth 20000 in
theorem e_X3_start {d : Nat} {P : Hp → Prop} {h : Hp} {r0 : Nat} {i1 : Int32} (ho : r0 < 47 ∧ ∃ fs, h r0 = .inr (3, fs)) (H : ∃ h1, sF h 3 r0 1 (.int i1) = some h1 ∧ L_X3_start_7 d P h1 r0 (0 : Int32)) : CV M_X3_start (d + 1) [.ref r0, .int i1] h P := by
  refine ⟨⟨r0, rfl, ho⟩, x_enter (by decide) (Nat.le_of_ble_eq_true rfl) ?_⟩
  show X (KM (none) (fun r h' => r = none ∧ P h')) RX3 cX3_start 3 (d + 1) h 0 [(0, .ref r0), (1, .int i1)] []
  refine x_aload_n dX3_start_0 rfl 0 rfl ?_
  refine x_iload_n dX3_start_1 rfl 1 rfl ?_
  obtain ⟨h1, eh1, H⟩ := H
  refine x_putI fp_X3_15 rfl rfl dX3_start_2 eh1 ?_
  refine x_iconst (v := (0 : Int32)) dX3_start_5 (by decide) ?_
  refine x_istore_n dX3_start_6 rfl (by decide) (lv' := [(2, .int (0 : Int32)), (0, .ref r0), (1, .int i1)]) rfl ?_
  refine x_perm [1, 0] rfl ?_
  exact H
set_option maxRecDepth 20000 in
theorem r_X3_start_7 {d : Nat} {P : Hp → Prop} {h : Hp} {r0 : Nat} {i2 : Int32} (H : (((10 : Int32) ≤ i2 → P h) ∧
  (¬ (10 : Int32) ≤ i2 → ∃ q1, gR h 3 r0 0 = some q1 ∧ ∃ h2, sI h q1 i2 (0 : Int32) = some h2 ∧ L_X3_start_7 d P h2 r0 (i2 + (1 : Int32))))) : L_X3_start_7 d P h r0 i2 := by
  show X (KM (none) (fun r h' => r = none ∧ P h')) RX3 cX3_start 3 (d + 1) h 7 [(0, .ref r0), (2, .int i2)] []
  refine x_iload_n dX3_start_7 rfl 1 rfl ?_
  refine x_bipush (v := (10 : Int32)) dX3_start_8 (by decide) ?_
  refine x_icmp_ge (tgt := 26) dX3_start_10 (by decide) (fun c => ?_) (fun c => ?_)
  · replace H := H.1 c
    exact x_vret dX3_start_26 ⟨rfl, H⟩
  · replace H := H.2 c
    refine x_aload_n dX3_start_13 rfl 0 rfl ?_
    obtain ⟨q1, eq1, H⟩ := H
    refine x_getR fl_X3_9 dX3_start_14 eq1 ?_
    refine x_iload_n dX3_start_17 rfl 1 rfl ?_
    refine x_iconst (v := (0 : Int32)) dX3_start_18 (by decide) ?_
    obtain ⟨h2, eh2, H⟩ := H
    refine x_iastore dX3_start_19 eh2 ?_
    refine x_iinc (q := 1) (v := (i2 + (1 : Int32))) dX3_start_20 rfl rfl (by decide) (lv' := [(2, .int (i2 + (1 : Int32))), (0, .ref r0)]) rfl ?_
    refine x_goto (tgt := 7) dX3_start_23 (by decide) ?_
    refine x_perm [1, 0] rfl ?_
    exact H
def L_X3_startNamed_7 (d : Nat) (P : Hp → Prop) (h : Hp) (r0 : Nat) (i1 : Int32) (i2 : Int32) (i3 : Int32) : Prop := X (KM (none) (fun r h' => r = none ∧ P h')) RX3 cX3_startNamed 5 (d + 1) h 7 [(0, .ref r0), (1, .int i1), (2, .int i2), (3, .int i3)] []
def L_X3_startNamed_15 (d : Nat) (P : Hp → Prop) (h : Hp) (r0 : Nat) (i1 : Int32) (i2 : Int32) (i3 : Int32) (i4 : Int32) : Prop := X (KM (none) (fun r h' => r = none ∧ P h')) RX3 cX3_startNamed 5 (d + 1) h 15 [(0, .ref r0), (1, .int i1), (2, .int i2), (3, .int i3), (4, .int i4)] []
set_option maxRecDepth 20000 in
theorem e_X3_startNamed {d : Nat} {P : Hp → Prop} {h : Hp} {r0 : Nat} {i1 : Int32} {i2 : Int32} (ho : r0 < 47 ∧ ∃ fs, h r0 = .inr (3, fs)) (H : CV M_X3_start d [.ref r0, .int i1] h (fun h1 => L_X3_startNamed_7 d P h1 r0 i1 i2 (2 : Int32))) : CV M_X3_startNamed (d + 1) [.ref r0, .int i1, .int i2] h P := by
  refine ⟨⟨r0, rfl, ho⟩, x_enter (by decide) (Nat.le_of_ble_eq_true rfl) ?_⟩
  show X (KM (none) (fun r h' => r = none ∧ P h')) RX3 cX3_startNamed 5 (d + 1) h 0 [(0, .ref r0), (1, .int i1), (2, .int i2)] []
  refine x_aload_n dX3_startNamed_0 rfl 0 rfl ?_
  refine x_iload_n dX3_startNamed_1 rfl 1 rfl ?_
  refine x_vV vl_X3_19 dX3_startNamed_2 (As := [.int i1]) rfl rfl (Nat.le_of_ble_eq_true rfl) (CV.mono H (fun h1 H => ?_))
  refine x_iconst (v := (2 : Int32)) dX3_startNamed_5 (by decide) ?_
  refine x_istore_n dX3_startNamed_6 rfl (by decide) (lv' := [(3, .int (2 : Int32)), (0, .ref r0), (1, .int i1), (2, .int i2)]) rfl ?_
  refine x_perm [1, 2, 3, 0] rfl ?_
  exact H
set_option maxRecDepth 20000 in
theorem r_X3_startNamed_7 {d : Nat} {P : Hp → Prop} {h : Hp} {r0 : Nat} {i1 : Int32} {i2 : Int32} {i3 : Int32} (H : ((i1 ≤ i3 → P h) ∧
  (¬ i1 ≤ i3 → L_X3_startNamed_15 d P h r0 i1 i2 i3 (1 : Int32)))) : L_X3_startNamed_7 d P h r0 i1 i2 i3 := by
  show X (KM (none) (fun r h' => r = none ∧ P h')) RX3 cX3_startNamed 5 (d + 1) h 7 [(0, .ref r0), (1, .int i1), (2, .int i2), (3, .int i3)] []
  refine x_iload_n dX3_startNamed_7 rfl 3 rfl ?_
  refine x_iload_n dX3_startNamed_8 rfl 1 rfl ?_
  refine x_icmp_ge (tgt := 58) dX3_startNamed_9 (by decide) (fun c => ?_) (fun c => ?_)
  · replace H := H.1 c
    exact x_vret dX3_startNamed_58 ⟨rfl, H⟩
  · replace H := H.2 c
    refine x_iconst (v := (1 : Int32)) dX3_startNamed_12 (by decide) ?_
    refine x_istore dX3_startNamed_13 (by decide) (lv' := [(4, .int (1 : Int32)), (0, .ref r0), (1, .int i1), (2, .int i2), (3, .int i3)]) rfl ?_
    refine x_perm [1, 2, 3, 4, 0] rfl ?_
    exact H
set_option maxRecDepth 20000 in
theorem r_X3_startNamed_15 {d : Nat} {P : Hp → Prop} {h : Hp} {r0 : Nat} {i1 : Int32} {i2 : Int32} {i3 : Int32} {i4 : Int32} (H : ((i3 ≤ i4 → L_X3_startNamed_7 d P h r0 i1 i2 (i3 + (1 : Int32))) ∧
  (¬ i3 ≤ i4 → CI M_X3_bitOfPair d [.int i4, .int i3] h (fun x2 h1 => ((((iushr i2 x2) &&& (1 : Int32)) = 0 → CV M_X3_setMinus d [.ref r0, .int i4, .int i3, .int (0 : Int32)] h1 (fun h3 => L_X3_startNamed_15 d P h3 r0 i1 i2 i3 (i4 + (1 : Int32)))) ∧
    (¬ ((iushr i2 x2) &&& (1 : Int32)) = 0 → CV M_X3_setMinus d [.ref r0, .int i4, .int i3, .int (1 : Int32)] h1 (fun h4 => L_X3_startNamed_15 d P h4 r0 i1 i2 i3 (i4 + (1 : Int32))))))))) : L_X3_startNamed_15 d P h r0 i1 i2 i3 i4 := by
  show X (KM (none) (fun r h' => r = none ∧ P h')) RX3 cX3_startNamed 5 (d + 1) h 15 [(0, .ref r0), (1, .int i1), (2, .int i2), (3, .int i3), (4, .int i4)] []
  refine x_iload dX3_startNamed_15 4 rfl ?_
  refine x_iload_n dX3_startNamed_17 rfl 3 rfl ?_
  refine x_icmp_ge (tgt := 52) dX3_startNamed_18 (by decide) (fun c => ?_) (fun c => ?_)
  · replace H := H.1 c
    refine x_iinc (q := 3) (v := (i3 + (1 : Int32))) dX3_startNamed_52 rfl rfl (by decide) (lv' := [(3, .int (i3 + (1 : Int32))), (0, .ref r0), (1, .int i1), (2, .int i2), (4, .int i4)]) rfl ?_
    refine x_goto (tgt := 7) dX3_startNamed_55 (by decide) ?_
    refine x_perm [1, 2, 3, 0] rfl ?_
    exact H
  · replace H := H.2 c
    refine x_aload_n dX3_startNamed_21 rfl 0 rfl ?_
    refine x_iload dX3_startNamed_22 4 rfl ?_
    refine x_iload_n dX3_startNamed_24 rfl 3 rfl ?_
    refine x_iload_n dX3_startNamed_25 rfl 2 rfl ?_
    refine x_iload dX3_startNamed_26 4 rfl ?_
    refine x_iload_n dX3_startNamed_28 rfl 3 rfl ?_
    refine x_sI sl_X3_23 dX3_startNamed_29 (As := [.int i4, .int i3]) rfl rfl (Nat.le_of_ble_eq_true rfl) (CI.mono H (fun x2 h1 H => ?_))
    refine x_iushr dX3_startNamed_32 ?_
    refine x_iconst (v := (1 : Int32)) dX3_startNamed_33 (by decide) ?_
    refine x_iand dX3_startNamed_34 ?_
    refine x_if_eq (tgt := 42) dX3_startNamed_35 (by decide) (fun c => ?_) (fun c => ?_)
    · replace H := H.1 c
      refine x_iconst (v := (0 : Int32)) dX3_startNamed_42 (by decide) ?_
      refine x_vV vl_X3_27 dX3_startNamed_43 (As := [.int i4, .int i3, .int (0 : Int32)]) rfl rfl (Nat.le_of_ble_eq_true rfl) (CV.mono H (fun h3 H => ?_))
      refine x_iinc (q := 4) (v := (i4 + (1 : Int32))) dX3_startNamed_46 rfl rfl (by decide) (lv' := [(4, .int (i4 + (1 : Int32))), (0, .ref r0), (1, .int i1), (2, .int i2), (3, .int i3)]) rfl ?_
      refine x_goto (tgt := 15) dX3_startNamed_49 (by decide) ?_
      refine x_perm [1, 2, 3, 4, 0] rfl ?_
      exact H
    · replace H := H.2 c
      refine x_iconst (v := (1 : Int32)) dX3_startNamed_38 (by decide) ?_
      refine x_goto (tgt := 43) dX3_startNamed_39 (by decide) ?_
      refine x_vV vl_X3_27 dX3_startNamed_43 (As := [.int i4, .int i3, .int (1 : Int32)]) rfl rfl (Nat.le_of_ble_eq_true rfl) (CV.mono H (fun h4 H => ?_))
      refine x_iinc (q := 4) (v := (i4 + (1 : Int32))) dX3_startNamed_46 rfl rfl (by decide) (lv' := [(4, .int (i4 + (1 : Int32))), (0, .ref r0), (1, .int i1), (2, .int i2), (3, .int i3)]) rfl ?_
      refine x_goto (tgt := 15) dX3_startNamed_49 (by decide) ?_
      refine x_perm [1, 2, 3, 4, 0] rfl ?_
      exact H
set_option maxRecDepth 20000 in
theorem e_X3_bitOfPair {d : Nat} {P : Int32 → Hp → Prop} {h : Hp} {i0 : Int32} {i1 : Int32} (H : P (((((i1 - (1 : Int32)) * (i1 - (2 : Int32))) / (2 : Int32)) + i0) - (1 : Int32)) h) : CI M_X3_bitOfPair (d + 1) [.int i0, .int i1] h P := by
  refine ⟨trivial, x_enter (by decide) (Nat.le_of_ble_eq_true rfl) ?_⟩
  show X (KM (some .int) (fun r h' => ∃ x, r = some (.int x) ∧ P x h')) RX3 cX3_bitOfPair 2 (d + 1) h 0 [(0, .int i0), (1, .int i1)] []
  refine x_iload_n dX3_bitOfPair_0 rfl 1 rfl ?_
  refine x_iconst (v := (1 : Int32)) dX3_bitOfPair_1 (by decide) ?_
  refine x_isub dX3_bitOfPair_2 ?_
  refine x_iload_n dX3_bitOfPair_3 rfl 1 rfl ?_
  refine x_iconst (v := (2 : Int32)) dX3_bitOfPair_4 (by decide) ?_
  refine x_isub dX3_bitOfPair_5 ?_
  refine x_imul dX3_bitOfPair_6 ?_
  refine x_iconst (v := (2 : Int32)) dX3_bitOfPair_7 (by decide) ?_
  refine x_idiv dX3_bitOfPair_8 (by decide) ?_
  refine x_iload_n dX3_bitOfPair_9 rfl 0 rfl ?_
  refine x_iadd dX3_bitOfPair_10 ?_
  refine x_iconst (v := (1 : Int32)) dX3_bitOfPair_11 (by decide) ?_
  refine x_isub dX3_bitOfPair_12 ?_
  exact x_iret dX3_bitOfPair_13 ⟨_, rfl, H⟩
set_option maxRecDepth 20000 in
theorem e_X3_hasLine {d : Nat} {P : Int32 → Hp → Prop} {h : Hp} {r0 : Nat} {i1 : Int32} (ho : r0 < 47 ∧ ∃ fs, h r0 = .inr (3, fs)) (H : ((i1 < 0 → P (0 : Int32) h) ∧
  (¬ i1 < 0 → ∃ x1, gI h 3 r0 1 = some x1 ∧ ((x1 ≤ i1 → P (0 : Int32) h) ∧
    (¬ x1 ≤ i1 → P (1 : Int32) h))))) : CI M_X3_hasLine (d + 1) [.ref r0, .int i1] h P := by
  refine ⟨⟨r0, rfl, ho⟩, x_enter (by decide) (Nat.le_of_ble_eq_true rfl) ?_⟩
  show X (KM (some .boolean) (fun r h' => ∃ x, r = some (.int x) ∧ P x h')) RX3 cX3_hasLine 2 (d + 1) h 0 [(0, .ref r0), (1, .int i1)] []
  refine x_iload_n dX3_hasLine_0 rfl 1 rfl ?_
  refine x_if_lt (tgt := 16) dX3_hasLine_1 (by decide) (fun c => ?_) (fun c => ?_)
  · replace H := H.1 c
    refine x_iconst (v := (0 : Int32)) dX3_hasLine_16 (by decide) ?_
    exact x_zret dX3_hasLine_17 (by decide) ⟨_, rfl, H⟩
  · replace H := H.2 c
    refine x_iload_n dX3_hasLine_4 rfl 1 rfl ?_
    refine x_aload_n dX3_hasLine_5 rfl 0 rfl ?_
    obtain ⟨x1, ex1, H⟩ := H
    refine x_getI fl_X3_15 dX3_hasLine_6 ex1 ?_
    refine x_icmp_ge (tgt := 16) dX3_hasLine_9 (by decide) (fun c => ?_) (fun c => ?_)
    · replace H := H.1 c
      refine x_iconst (v := (0 : Int32)) dX3_hasLine_16 (by decide) ?_
      exact x_zret dX3_hasLine_17 (by decide) ⟨_, rfl, H⟩
    · replace H := H.2 c
      refine x_iconst (v := (1 : Int32)) dX3_hasLine_12 (by decide) ?_
      refine x_goto (tgt := 17) dX3_hasLine_13 (by decide) ?_
      exact x_zret dX3_hasLine_17 (by decide) ⟨_, rfl, H⟩
set_option maxRecDepth 20000 in
theorem e_X3_isRow {d : Nat} {P : Int32 → Hp → Prop} {h : Hp} {r0 : Nat} {i1 : Int32} (ho : r0 < 47 ∧ ∃ fs, h r0 = .inr (3, fs)) (H : ((¬ (i1 &&& (1 : Int32)) = 0 → P (0 : Int32) h) ∧
  ((i1 &&& (1 : Int32)) = 0 → ∃ x1, gI h 3 r0 1 = some x1 ∧ ((¬ (iushr i1 x1) = 0 → P (0 : Int32) h) ∧
    ((iushr i1 x1) = 0 → P (1 : Int32) h))))) : CI M_X3_isRow (d + 1) [.ref r0, .int i1] h P := by
  refine ⟨⟨r0, rfl, ho⟩, x_enter (by decide) (Nat.le_of_ble_eq_true rfl) ?_⟩
  show X (KM (some .boolean) (fun r h' => ∃ x, r = some (.int x) ∧ P x h')) RX3 cX3_isRow 2 (d + 1) h 0 [(0, .ref r0), (1, .int i1)] []
  refine x_iload_n dX3_isRow_0 rfl 1 rfl ?_
  refine x_iconst (v := (1 : Int32)) dX3_isRow_1 (by decide) ?_
  refine x_iand dX3_isRow_2 ?_
  refine x_if_ne (tgt := 19) dX3_isRow_3 (by decide) (fun c => ?_) (fun c => ?_)
  · replace H := H.1 c
    refine x_iconst (v := (0 : Int32)) dX3_isRow_19 (by decide) ?_
    exact x_zret dX3_isRow_20 (by decide) ⟨_, rfl, H⟩
  · replace H := H.2 c
    refine x_iload_n dX3_isRow_6 rfl 1 rfl ?_
    refine x_aload_n dX3_isRow_7 rfl 0 rfl ?_
    obtain ⟨x1, ex1, H⟩ := H
    refine x_getI fl_X3_15 dX3_isRow_8 ex1 ?_
    refine x_iushr dX3_isRow_11 ?_
    refine x_if_ne (tgt := 19) dX3_isRow_12 (by decide) (fun c => ?_) (fun c => ?_)
    · replace H := H.1 c
      refine x_iconst (v := (0 : Int32)) dX3_isRow_19 (by decide) ?_
      exact x_zret dX3_isRow_20 (by decide) ⟨_, rfl, H⟩
    · replace H := H.2 c
      refine x_iconst (v := (1 : Int32)) dX3_isRow_15 (by decide) ?_
      refine x_goto (tgt := 20) dX3_isRow_16 (by decide) ?_
      exact x_zret dX3_isRow_20 (by decide) ⟨_, rfl, H⟩
set_option maxRecDepth 20000 in
theorem e_X3_isMinus {d : Nat} {P : Int32 → Hp → Prop} {h : Hp} {r0 : Nat} {i1 : Int32} {i2 : Int32} (ho : r0 < 47 ∧ ∃ fs, h r0 = .inr (3, fs)) (H : ∃ q1, gR h 3 r0 0 = some q1 ∧ ∃ x2, lI h q1 i1 = some x2 ∧ ((((iushr x2 i2) &&& (1 : Int32)) = 0 → P (0 : Int32) h) ∧
  (¬ ((iushr x2 i2) &&& (1 : Int32)) = 0 → P (1 : Int32) h))) : CI M_X3_isMinus (d + 1) [.ref r0, .int i1, .int i2] h P := by
  refine ⟨⟨r0, rfl, ho⟩, x_enter (by decide) (Nat.le_of_ble_eq_true rfl) ?_⟩
  show X (KM (some .boolean) (fun r h' => ∃ x, r = some (.int x) ∧ P x h')) RX3 cX3_isMinus 3 (d + 1) h 0 [(0, .ref r0), (1, .int i1), (2, .int i2)] []
  refine x_aload_n dX3_isMinus_0 rfl 0 rfl ?_
  obtain ⟨q1, eq1, H⟩ := H
  refine x_getR fl_X3_9 dX3_isMinus_1 eq1 ?_
  refine x_iload_n dX3_isMinus_4 rfl 1 rfl ?_
  obtain ⟨x2, ex2, H⟩ := H
  refine x_iaload dX3_isMinus_5 ex2 ?_
  refine x_iload_n dX3_isMinus_6 rfl 2 rfl ?_
  refine x_iushr dX3_isMinus_7 ?_
  refine x_iconst (v := (1 : Int32)) dX3_isMinus_8 (by decide) ?_
  refine x_iand dX3_isMinus_9 ?_
  refine x_if_eq (tgt := 17) dX3_isMinus_10 (by decide) (fun c => ?_) (fun c => ?_)
  · replace H := H.1 c
    refine x_iconst (v := (0 : Int32)) dX3_isMinus_17 (by decide) ?_
    exact x_zret dX3_isMinus_18 (by decide) ⟨_, rfl, H⟩
  · replace H := H.2 c
    refine x_iconst (v := (1 : Int32)) dX3_isMinus_13 (by decide) ?_
    refine x_goto (tgt := 18) dX3_isMinus_14 (by decide) ?_
    exact x_zret dX3_isMinus_18 (by decide) ⟨_, rfl, H⟩
set_option maxRecDepth 20000 in
theorem e_X3_entry {d : Nat} {P : Int32 → Hp → Prop} {h : Hp} {r0 : Nat} {i1 : Int32} {i2 : Int32} (ho : r0 < 47 ∧ ∃ fs, h r0 = .inr (3, fs)) (H : ((¬ i1 = i2 → CI M_X3_isMinus d [.ref r0, .int i1, .int i2] h (fun x2 h1 => ((x2 = 0 → P (1 : Int32) h1) ∧
    (¬ x2 = 0 → P (-1 : Int32) h1)))) ∧
  (i1 = i2 → P (0 : Int32) h))) : CI M_X3_entry (d + 1) [.ref r0, .int i1, .int i2] h P := by
  refine ⟨⟨r0, rfl, ho⟩, x_enter (by decide) (Nat.le_of_ble_eq_true rfl) ?_⟩
  show X (KM (some .int) (fun r h' => ∃ x, r = some (.int x) ∧ P x h')) RX3 cX3_entry 3 (d + 1) h 0 [(0, .ref r0), (1, .int i1), (2, .int i2)] []
  refine x_iload_n dX3_entry_0 rfl 1 rfl ?_
  refine x_iload_n dX3_entry_1 rfl 2 rfl ?_
  refine x_icmp_ne (tgt := 7) dX3_entry_2 (by decide) (fun c => ?_) (fun c => ?_)
  · replace H := H.1 c
    refine x_aload_n dX3_entry_7 rfl 0 rfl ?_
    refine x_iload_n dX3_entry_8 rfl 1 rfl ?_
    refine x_iload_n dX3_entry_9 rfl 2 rfl ?_
    refine x_vI vl_X3_31 dX3_entry_10 (As := [.int i1, .int i2]) rfl rfl (Nat.le_of_ble_eq_true rfl) (CI.mono H (fun x2 h1 H => ?_))
    refine x_if_eq (tgt := 20) dX3_entry_13 (by decide) (fun c => ?_) (fun c => ?_)
    · replace H := H.1 c
      refine x_iconst (v := (1 : Int32)) dX3_entry_20 (by decide) ?_
      exact x_iret dX3_entry_21 ⟨_, rfl, H⟩
    · replace H := H.2 c
      refine x_iconst (v := (-1 : Int32)) dX3_entry_16 (by decide) ?_
      refine x_goto (tgt := 21) dX3_entry_17 (by decide) ?_
      exact x_iret dX3_entry_21 ⟨_, rfl, H⟩
  · replace H := H.2 c
    refine x_iconst (v := (0 : Int32)) dX3_entry_5 (by decide) ?_
    exact x_iret dX3_entry_6 ⟨_, rfl, H⟩
set_option maxRecDepth 20000 in
theorem e_X3_setMinus {d : Nat} {P : Hp → Prop} {h : Hp} {r0 : Nat} {i1 : Int32} {i2 : Int32} {i3 : Int32} (ho : r0 < 47 ∧ ∃ fs, h r0 = .inr (3, fs)) (H : CI M_X3_isMinus d [.ref r0, .int i1, .int i2] h (fun x2 h1 => ((x2 = i3 → P h1) ∧
  (¬ x2 = i3 → ∃ q3, gR h1 3 r0 0 = some q3 ∧ ∃ x4, lI h1 q3 i1 = some x4 ∧ ∃ h5, sI h1 q3 i1 (x4 ^^^ (ishl (1 : Int32) i2)) = some h5 ∧ ∃ q6, gR h5 3 r0 0 = some q6 ∧ ∃ x7, lI h5 q6 i2 = some x7 ∧ ∃ h8, sI h5 q6 i2 (x7 ^^^ (ishl (1 : Int32) i1)) = some h8 ∧ P h8)))) : CV M_X3_setMinus (d + 1) [.ref r0, .int i1, .int i2, .int i3] h P := by
  refine ⟨⟨r0, rfl, ho⟩, x_enter (by decide) (Nat.le_of_ble_eq_true rfl) ?_⟩
  show X (KM (none) (fun r h' => r = none ∧ P h')) RX3 cX3_setMinus 4 (d + 1) h 0 [(0, .ref r0), (1, .int i1), (2, .int i2), (3, .int i3)] []
  refine x_aload_n dX3_setMinus_0 rfl 0 rfl ?_
  refine x_iload_n dX3_setMinus_1 rfl 1 rfl ?_
  refine x_iload_n dX3_setMinus_2 rfl 2 rfl ?_
  refine x_vI vl_X3_31 dX3_setMinus_3 (As := [.int i1, .int i2]) rfl rfl (Nat.le_of_ble_eq_true rfl) (CI.mono H (fun x2 h1 H => ?_))
  refine x_iload_n dX3_setMinus_6 rfl 3 rfl ?_
  refine x_icmp_eq (tgt := 34) dX3_setMinus_7 (by decide) (fun c => ?_) (fun c => ?_)
  · replace H := H.1 c
    exact x_vret dX3_setMinus_34 ⟨rfl, H⟩
  · replace H := H.2 c
    refine x_aload_n dX3_setMinus_10 rfl 0 rfl ?_
    obtain ⟨q3, eq3, H⟩ := H
    refine x_getR fl_X3_9 dX3_setMinus_11 eq3 ?_
    refine x_iload_n dX3_setMinus_14 rfl 1 rfl ?_
    refine x_dup2 dX3_setMinus_15 rfl rfl ?_
    obtain ⟨x4, ex4, H⟩ := H
    refine x_iaload dX3_setMinus_16 ex4 ?_
    refine x_iconst (v := (1 : Int32)) dX3_setMinus_17 (by decide) ?_
    refine x_iload_n dX3_setMinus_18 rfl 2 rfl ?_
    refine x_ishl dX3_setMinus_19 ?_
    refine x_ixor dX3_setMinus_20 ?_
    obtain ⟨h5, eh5, H⟩ := H
    refine x_iastore dX3_setMinus_21 eh5 ?_
    refine x_aload_n dX3_setMinus_22 rfl 0 rfl ?_
    obtain ⟨q6, eq6, H⟩ := H
    refine x_getR fl_X3_9 dX3_setMinus_23 eq6 ?_
    refine x_iload_n dX3_setMinus_26 rfl 2 rfl ?_
    refine x_dup2 dX3_setMinus_27 rfl rfl ?_
    obtain ⟨x7, ex7, H⟩ := H
    refine x_iaload dX3_setMinus_28 ex7 ?_
    refine x_iconst (v := (1 : Int32)) dX3_setMinus_29 (by decide) ?_
    refine x_iload_n dX3_setMinus_30 rfl 1 rfl ?_
    refine x_ishl dX3_setMinus_31 ?_
    refine x_ixor dX3_setMinus_32 ?_
    obtain ⟨h8, eh8, H⟩ := H
    refine x_iastore dX3_setMinus_33 eh8 ?_
    exact x_vret dX3_setMinus_34 ⟨rfl, H⟩
def L_X3_turnLine_2 (d : Nat) (P : Hp → Prop) (h : Hp) (r0 : Nat) (i1 : Int32) (i2 : Int32) : Prop := X (KM (none) (fun r h' => r = none ∧ P h')) RX3 cX3_turnLine 3 (d + 1) h 2 [(0, .ref r0), (1, .int i1), (2, .int i2)] []
set_option maxRecDepth 20000 in
theorem e_X3_turnLine {d : Nat} {P : Hp → Prop} {h : Hp} {r0 : Nat} {i1 : Int32} (ho : r0 < 47 ∧ ∃ fs, h r0 = .inr (3, fs)) (H : L_X3_turnLine_2 d P h r0 i1 (0 : Int32)) : CV M_X3_turnLine (d + 1) [.ref r0, .int i1] h P := by
  refine ⟨⟨r0, rfl, ho⟩, x_enter (by decide) (Nat.le_of_ble_eq_true rfl) ?_⟩
  show X (KM (none) (fun r h' => r = none ∧ P h')) RX3 cX3_turnLine 3 (d + 1) h 0 [(0, .ref r0), (1, .int i1)] []
  refine x_iconst (v := (0 : Int32)) dX3_turnLine_0 (by decide) ?_
  refine x_istore_n dX3_turnLine_1 rfl (by decide) (lv' := [(2, .int (0 : Int32)), (0, .ref r0), (1, .int i1)]) rfl ?_
  refine x_perm [1, 2, 0] rfl ?_
  exact H
set_option maxRecDepth 20000 in
theorem r_X3_turnLine_2 {d : Nat} {P : Hp → Prop} {h : Hp} {r0 : Nat} {i1 : Int32} {i2 : Int32} (H : ∃ x1, gI h 3 r0 1 = some x1 ∧ ((x1 ≤ i2 → P h) ∧
  (¬ x1 ≤ i2 → ((i2 = i1 → L_X3_turnLine_2 d P h r0 i1 (i2 + (1 : Int32))) ∧
    (¬ i2 = i1 → CI M_X3_isMinus d [.ref r0, .int i1, .int i2] h (fun x3 h2 => ((¬ x3 = 0 → CV M_X3_setMinus d [.ref r0, .int i1, .int i2, .int (0 : Int32)] h2 (fun h4 => L_X3_turnLine_2 d P h4 r0 i1 (i2 + (1 : Int32)))) ∧
      (x3 = 0 → CV M_X3_setMinus d [.ref r0, .int i1, .int i2, .int (1 : Int32)] h2 (fun h5 => L_X3_turnLine_2 d P h5 r0 i1 (i2 + (1 : Int32))))))))))) : L_X3_turnLine_2 d P h r0 i1 i2 := by
  show X (KM (none) (fun r h' => r = none ∧ P h')) RX3 cX3_turnLine 3 (d + 1) h 2 [(0, .ref r0), (1, .int i1), (2, .int i2)] []
  refine x_iload_n dX3_turnLine_2 rfl 2 rfl ?_
  refine x_aload_n dX3_turnLine_3 rfl 0 rfl ?_
  obtain ⟨x1, ex1, H⟩ := H
  refine x_getI fl_X3_15 dX3_turnLine_4 ex1 ?_
  refine x_icmp_ge (tgt := 41) dX3_turnLine_7 (by decide) (fun c => ?_) (fun c => ?_)
  · replace H := H.1 c
    exact x_vret dX3_turnLine_41 ⟨rfl, H⟩
  · replace H := H.2 c
    refine x_iload_n dX3_turnLine_10 rfl 2 rfl ?_
    refine x_iload_n dX3_turnLine_11 rfl 1 rfl ?_
    refine x_icmp_eq (tgt := 35) dX3_turnLine_12 (by decide) (fun c => ?_) (fun c => ?_)
    · replace H := H.1 c
      refine x_iinc (q := 2) (v := (i2 + (1 : Int32))) dX3_turnLine_35 rfl rfl (by decide) (lv' := [(2, .int (i2 + (1 : Int32))), (0, .ref r0), (1, .int i1)]) rfl ?_
      refine x_goto (tgt := 2) dX3_turnLine_38 (by decide) ?_
      refine x_perm [1, 2, 0] rfl ?_
      exact H
    · replace H := H.2 c
      refine x_aload_n dX3_turnLine_15 rfl 0 rfl ?_
      refine x_iload_n dX3_turnLine_16 rfl 1 rfl ?_
      refine x_iload_n dX3_turnLine_17 rfl 2 rfl ?_
      refine x_aload_n dX3_turnLine_18 rfl 0 rfl ?_
      refine x_iload_n dX3_turnLine_19 rfl 1 rfl ?_
      refine x_iload_n dX3_turnLine_20 rfl 2 rfl ?_
      refine x_vI vl_X3_31 dX3_turnLine_21 (As := [.int i1, .int i2]) rfl rfl (Nat.le_of_ble_eq_true rfl) (CI.mono H (fun x3 h2 H => ?_))
      refine x_if_ne (tgt := 31) dX3_turnLine_24 (by decide) (fun c => ?_) (fun c => ?_)
      · replace H := H.1 c
        refine x_iconst (v := (0 : Int32)) dX3_turnLine_31 (by decide) ?_
        refine x_vV vl_X3_27 dX3_turnLine_32 (As := [.int i1, .int i2, .int (0 : Int32)]) rfl rfl (Nat.le_of_ble_eq_true rfl) (CV.mono H (fun h4 H => ?_))
        refine x_iinc (q := 2) (v := (i2 + (1 : Int32))) dX3_turnLine_35 rfl rfl (by decide) (lv' := [(2, .int (i2 + (1 : Int32))), (0, .ref r0), (1, .int i1)]) rfl ?_
        refine x_goto (tgt := 2) dX3_turnLine_38 (by decide) ?_
        refine x_perm [1, 2, 0] rfl ?_
        exact H
      · replace H := H.2 c
        refine x_iconst (v := (1 : Int32)) dX3_turnLine_27 (by decide) ?_
        refine x_goto (tgt := 32) dX3_turnLine_28 (by decide) ?_
        refine x_vV vl_X3_27 dX3_turnLine_32 (As := [.int i1, .int i2, .int (1 : Int32)]) rfl rfl (Nat.le_of_ble_eq_true rfl) (CV.mono H (fun h5 H => ?_))
        refine x_iinc (q := 2) (v := (i2 + (1 : Int32))) dX3_turnLine_35 rfl rfl (by decide) (lv' := [(2, .int (i2 + (1 : Int32))), (0, .ref r0), (1, .int i1)]) rfl ?_
        refine x_goto (tgt := 2) dX3_turnLine_38 (by decide) ?_
        refine x_perm [1, 2, 0] rfl ?_
        exact H
def L_X3_swapLines_29 (d : Nat) (P : Hp → Prop) (h : Hp) (r0 : Nat) (i1 : Int32) (i2 : Int32) (i4 : Int32) : Prop := X (KM (none) (fun r h' => r = none ∧ P h')) RX3 cX3_swapLines 5 (d + 1) h 29 [(0, .ref r0), (1, .int i1), (2, .int i2), (4, .int i4)] []
set_option maxRecDepth 20000 in
theorem e_X3_swapLines {d : Nat} {P : Hp → Prop} {h : Hp} {r0 : Nat} {i1 : Int32} {i2 : Int32} (ho : r0 < 47 ∧ ∃ fs, h r0 = .inr (3, fs)) (H : ∃ q1, gR h 3 r0 0 = some q1 ∧ ∃ x2, lI h q1 i1 = some x2 ∧ ∃ q3, gR h 3 r0 0 = some q3 ∧ ∃ q4, gR h 3 r0 0 = some q4 ∧ ∃ x5, lI h q4 i2 = some x5 ∧ ∃ h6, sI h q3 i1 x5 = some h6 ∧ ∃ q7, gR h6 3 r0 0 = some q7 ∧ ∃ h8, sI h6 q7 i2 x2 = some h8 ∧ L_X3_swapLines_29 d P h8 r0 i1 i2 (0 : Int32)) : CV M_X3_swapLines (d + 1) [.ref r0, .int i1, .int i2] h P := by
  refine ⟨⟨r0, rfl, ho⟩, x_enter (by decide) (Nat.le_of_ble_eq_true rfl) ?_⟩
  show X (KM (none) (fun r h' => r = none ∧ P h')) RX3 cX3_swapLines 5 (d + 1) h 0 [(0, .ref r0), (1, .int i1), (2, .int i2)] []
  refine x_aload_n dX3_swapLines_0 rfl 0 rfl ?_
  obtain ⟨q1, eq1, H⟩ := H
  refine x_getR fl_X3_9 dX3_swapLines_1 eq1 ?_
  refine x_iload_n dX3_swapLines_4 rfl 1 rfl ?_
  obtain ⟨x2, ex2, H⟩ := H
  refine x_iaload dX3_swapLines_5 ex2 ?_
  refine x_istore_n dX3_swapLines_6 rfl (by decide) (lv' := [(3, .int x2), (0, .ref r0), (1, .int i1), (2, .int i2)]) rfl ?_
  refine x_aload_n dX3_swapLines_7 rfl 1 rfl ?_
  obtain ⟨q3, eq3, H⟩ := H
  refine x_getR fl_X3_9 dX3_swapLines_8 eq3 ?_
  refine x_iload_n dX3_swapLines_11 rfl 2 rfl ?_
  refine x_aload_n dX3_swapLines_12 rfl 1 rfl ?_
  obtain ⟨q4, eq4, H⟩ := H
  refine x_getR fl_X3_9 dX3_swapLines_13 eq4 ?_
  refine x_iload_n dX3_swapLines_16 rfl 3 rfl ?_
  obtain ⟨x5, ex5, H⟩ := H
  refine x_iaload dX3_swapLines_17 ex5 ?_
  obtain ⟨h6, eh6, H⟩ := H
  refine x_iastore dX3_swapLines_18 eh6 ?_
  refine x_aload_n dX3_swapLines_19 rfl 1 rfl ?_
  obtain ⟨q7, eq7, H⟩ := H
  refine x_getR fl_X3_9 dX3_swapLines_20 eq7 ?_
  refine x_iload_n dX3_swapLines_23 rfl 3 rfl ?_
  refine x_iload_n dX3_swapLines_24 rfl 0 rfl ?_
  obtain ⟨h8, eh8, H⟩ := H
  refine x_iastore dX3_swapLines_25 eh8 ?_
  refine x_iconst (v := (0 : Int32)) dX3_swapLines_26 (by decide) ?_
  refine x_istore dX3_swapLines_27 (by decide) (lv' := [(4, .int (0 : Int32)), (3, .int x2), (0, .ref r0), (1, .int i1), (2, .int i2)]) rfl ?_
  refine x_perm [2, 3, 4, 0] rfl ?_
  exact H
set_option maxRecDepth 20000 in
theorem r_X3_swapLines_29 {d : Nat} {P : Hp → Prop} {h : Hp} {r0 : Nat} {i1 : Int32} {i2 : Int32} {i4 : Int32} (H : ∃ x1, gI h 3 r0 1 = some x1 ∧ ((x1 ≤ i4 → P h) ∧
  (¬ x1 ≤ i4 → CI M_X3_isMinus d [.ref r0, .int i4, .int i1] h (fun x3 h2 => CI M_X3_isMinus d [.ref r0, .int i4, .int i2] h2 (fun x5 h4 => ((x3 = x5 → L_X3_swapLines_29 d P h4 r0 i1 i2 (i4 + (1 : Int32))) ∧
    (¬ x3 = x5 → ∃ q6, gR h4 3 r0 0 = some q6 ∧ ∃ x7, lI h4 q6 i4 = some x7 ∧ ∃ h8, sI h4 q6 i4 (x7 ^^^ ((ishl (1 : Int32) i1) ||| (ishl (1 : Int32) i2))) = some h8 ∧ L_X3_swapLines_29 d P h8 r0 i1 i2 (i4 + (1 : Int32))))))))) : L_X3_swapLines_29 d P h r0 i1 i2 i4 := by
  show X (KM (none) (fun r h' => r = none ∧ P h')) RX3 cX3_swapLines 5 (d + 1) h 29 [(0, .ref r0), (1, .int i1), (2, .int i2), (4, .int i4)] []
  refine x_iload dX3_swapLines_29 3 rfl ?_
  refine x_aload_n dX3_swapLines_31 rfl 0 rfl ?_
  obtain ⟨x1, ex1, H⟩ := H
  refine x_getI fl_X3_15 dX3_swapLines_32 ex1 ?_
  refine x_icmp_ge (tgt := 78) dX3_swapLines_35 (by decide) (fun c => ?_) (fun c => ?_)
  · replace H := H.1 c
    exact x_vret dX3_swapLines_78 ⟨rfl, H⟩
  · replace H := H.2 c
    refine x_aload_n dX3_swapLines_38 rfl 0 rfl ?_
    refine x_iload dX3_swapLines_39 3 rfl ?_
    refine x_iload_n dX3_swapLines_41 rfl 1 rfl ?_
    refine x_vI vl_X3_31 dX3_swapLines_42 (As := [.int i4, .int i1]) rfl rfl (Nat.le_of_ble_eq_true rfl) (CI.mono H (fun x3 h2 H => ?_))
    refine x_aload_n dX3_swapLines_45 rfl 0 rfl ?_
    refine x_iload dX3_swapLines_46 3 rfl ?_
    refine x_iload_n dX3_swapLines_48 rfl 2 rfl ?_
    refine x_vI vl_X3_31 dX3_swapLines_49 (As := [.int i4, .int i2]) rfl rfl (Nat.le_of_ble_eq_true rfl) (CI.mono H (fun x5 h4 H => ?_))
    refine x_icmp_eq (tgt := 72) dX3_swapLines_52 (by decide) (fun c => ?_) (fun c => ?_)
    · replace H := H.1 c
      refine x_iinc (q := 3) (v := (i4 + (1 : Int32))) dX3_swapLines_72 rfl rfl (by decide) (lv' := [(4, .int (i4 + (1 : Int32))), (0, .ref r0), (1, .int i1), (2, .int i2)]) rfl ?_
      refine x_goto (tgt := 29) dX3_swapLines_75 (by decide) ?_
      refine x_perm [1, 2, 3, 0] rfl ?_
      exact H
    · replace H := H.2 c
      refine x_aload_n dX3_swapLines_55 rfl 0 rfl ?_
      obtain ⟨q6, eq6, H⟩ := H
      refine x_getR fl_X3_9 dX3_swapLines_56 eq6 ?_
      refine x_iload dX3_swapLines_59 3 rfl ?_
      refine x_dup2 dX3_swapLines_61 rfl rfl ?_
      obtain ⟨x7, ex7, H⟩ := H
      refine x_iaload dX3_swapLines_62 ex7 ?_
      refine x_iconst (v := (1 : Int32)) dX3_swapLines_63 (by decide) ?_
      refine x_iload_n dX3_swapLines_64 rfl 1 rfl ?_
      refine x_ishl dX3_swapLines_65 ?_
      refine x_iconst (v := (1 : Int32)) dX3_swapLines_66 (by decide) ?_
      refine x_iload_n dX3_swapLines_67 rfl 2 rfl ?_
      refine x_ishl dX3_swapLines_68 ?_
      refine x_ior dX3_swapLines_69 ?_
      refine x_ixor dX3_swapLines_70 ?_
      obtain ⟨h8, eh8, H⟩ := H
      refine x_iastore dX3_swapLines_71 eh8 ?_
      refine x_iinc (q := 3) (v := (i4 + (1 : Int32))) dX3_swapLines_72 rfl rfl (by decide) (lv' := [(4, .int (i4 + (1 : Int32))), (0, .ref r0), (1, .int i1), (2, .int i2)]) rfl ?_
      refine x_goto (tgt := 29) dX3_swapLines_75 (by decide) ?_
      refine x_perm [1, 2, 3, 0] rfl ?_
      exact H
def L_X3_addLine_17 (d : Nat) (P : Hp → Prop) (h : Hp) (r0 : Nat) (i1 : Int32) (i2 : Int32) (i3 : Int32) : Prop := X (KM (none) (fun r h' => r = none ∧ P h')) RX3 cX3_addLine 4 (d + 1) h 17 [(0, .ref r0), (1, .int i1), (2, .int i2), (3, .int i3)] []
set_option maxRecDepth 20000 in
theorem e_X3_addLine {d : Nat} {P : Hp → Prop} {h : Hp} {r0 : Nat} {i1 : Int32} (ho : r0 < 47 ∧ ∃ fs, h r0 = .inr (3, fs)) (H : ∃ x1, gI h 3 r0 1 = some x1 ∧ ∃ x2, gI h 3 r0 1 = some x2 ∧ ∃ h3, sF h 3 r0 1 (.int (x2 + (1 : Int32))) = some h3 ∧ L_X3_addLine_17 d P h3 r0 i1 x1 (0 : Int32)) : CV M_X3_addLine (d + 1) [.ref r0, .int i1] h P := by
  refine ⟨⟨r0, rfl, ho⟩, x_enter (by decide) (Nat.le_of_ble_eq_true rfl) ?_⟩
  show X (KM (none) (fun r h' => r = none ∧ P h')) RX3 cX3_addLine 4 (d + 1) h 0 [(0, .ref r0), (1, .int i1)] []
  refine x_aload_n dX3_addLine_0 rfl 0 rfl ?_
  obtain ⟨x1, ex1, H⟩ := H
  refine x_getI fl_X3_15 dX3_addLine_1 ex1 ?_
  refine x_istore_n dX3_addLine_4 rfl (by decide) (lv' := [(2, .int x1), (0, .ref r0), (1, .int i1)]) rfl ?_
  refine x_aload_n dX3_addLine_5 rfl 1 rfl ?_
  refine x_dup dX3_addLine_6 rfl ?_
  obtain ⟨x2, ex2, H⟩ := H
  refine x_getI fl_X3_15 dX3_addLine_7 ex2 ?_
  refine x_iconst (v := (1 : Int32)) dX3_addLine_10 (by decide) ?_
  refine x_iadd dX3_addLine_11 ?_
  obtain ⟨h3, eh3, H⟩ := H
  refine x_putI fp_X3_15 rfl rfl dX3_addLine_12 eh3 ?_
  refine x_iconst (v := (0 : Int32)) dX3_addLine_15 (by decide) ?_
  refine x_istore_n dX3_addLine_16 rfl (by decide) (lv' := [(3, .int (0 : Int32)), (2, .int x1), (0, .ref r0), (1, .int i1)]) rfl ?_
  refine x_perm [2, 3, 1, 0] rfl ?_
  exact H
set_option maxRecDepth 20000 in
theorem r_X3_addLine_17 {d : Nat} {P : Hp → Prop} {h : Hp} {r0 : Nat} {i1 : Int32} {i2 : Int32} {i3 : Int32} (H : ((i2 ≤ i3 → P h) ∧
  (¬ i2 ≤ i3 → ((((iushr i1 i3) &&& (1 : Int32)) = 0 → CV M_X3_setMinus d [.ref r0, .int i3, .int i2, .int (0 : Int32)] h (fun h1 => L_X3_addLine_17 d P h1 r0 i1 i2 (i3 + (1 : Int32)))) ∧
    (¬ ((iushr i1 i3) &&& (1 : Int32)) = 0 → CV M_X3_setMinus d [.ref r0, .int i3, .int i2, .int (1 : Int32)] h (fun h2 => L_X3_addLine_17 d P h2 r0 i1 i2 (i3 + (1 : Int32)))))))) : L_X3_addLine_17 d P h r0 i1 i2 i3 := by
  show X (KM (none) (fun r h' => r = none ∧ P h')) RX3 cX3_addLine 4 (d + 1) h 17 [(0, .ref r0), (1, .int i1), (2, .int i2), (3, .int i3)] []
  refine x_iload_n dX3_addLine_17 rfl 3 rfl ?_
  refine x_iload_n dX3_addLine_18 rfl 2 rfl ?_
  refine x_icmp_ge (tgt := 47) dX3_addLine_19 (by decide) (fun c => ?_) (fun c => ?_)
  · replace H := H.1 c
    exact x_vret dX3_addLine_47 ⟨rfl, H⟩
  · replace H := H.2 c
    refine x_aload_n dX3_addLine_22 rfl 0 rfl ?_
    refine x_iload_n dX3_addLine_23 rfl 3 rfl ?_
    refine x_iload_n dX3_addLine_24 rfl 2 rfl ?_
    refine x_iload_n dX3_addLine_25 rfl 1 rfl ?_
    refine x_iload_n dX3_addLine_26 rfl 3 rfl ?_
    refine x_iushr dX3_addLine_27 ?_
    refine x_iconst (v := (1 : Int32)) dX3_addLine_28 (by decide) ?_
    refine x_iand dX3_addLine_29 ?_
    refine x_if_eq (tgt := 37) dX3_addLine_30 (by decide) (fun c => ?_) (fun c => ?_)
    · replace H := H.1 c
      refine x_iconst (v := (0 : Int32)) dX3_addLine_37 (by decide) ?_
      refine x_vV vl_X3_27 dX3_addLine_38 (As := [.int i3, .int i2, .int (0 : Int32)]) rfl rfl (Nat.le_of_ble_eq_true rfl) (CV.mono H (fun h1 H => ?_))
      refine x_iinc (q := 3) (v := (i3 + (1 : Int32))) dX3_addLine_41 rfl rfl (by decide) (lv' := [(3, .int (i3 + (1 : Int32))), (0, .ref r0), (1, .int i1), (2, .int i2)]) rfl ?_
      refine x_goto (tgt := 17) dX3_addLine_44 (by decide) ?_
      refine x_perm [1, 2, 3, 0] rfl ?_
      exact H
    · replace H := H.2 c
      refine x_iconst (v := (1 : Int32)) dX3_addLine_33 (by decide) ?_
      refine x_goto (tgt := 38) dX3_addLine_34 (by decide) ?_
      refine x_vV vl_X3_27 dX3_addLine_38 (As := [.int i3, .int i2, .int (1 : Int32)]) rfl rfl (Nat.le_of_ble_eq_true rfl) (CV.mono H (fun h2 H => ?_))
      refine x_iinc (q := 3) (v := (i3 + (1 : Int32))) dX3_addLine_41 rfl rfl (by decide) (lv' := [(3, .int (i3 + (1 : Int32))), (0, .ref r0), (1, .int i1), (2, .int i2)]) rfl ?_
      refine x_goto (tgt := 17) dX3_addLine_44 (by decide) ?_
      refine x_perm [1, 2, 3, 0] rfl ?_
      exact H
def L_X3_minusSigns_4 (d : Nat) (P : Int32 → Hp → Prop) (h : Hp) (r0 : Nat) (i1 : Int32) (i2 : Int32) : Prop := X (KM (some .int) (fun r h' => ∃ x, r = some (.int x) ∧ P x h')) RX3 cX3_minusSigns 3 (d + 1) h 4 [(0, .ref r0), (1, .int i1), (2, .int i2)] []
set_option maxRecDepth 20000 in
theorem e_X3_minusSigns {d : Nat} {P : Int32 → Hp → Prop} {h : Hp} {r0 : Nat} (ho : r0 < 47 ∧ ∃ fs, h r0 = .inr (3, fs)) (H : L_X3_minusSigns_4 d P h r0 (0 : Int32) (0 : Int32)) : CI M_X3_minusSigns (d + 1) [.ref r0] h P := by
  refine ⟨⟨r0, rfl, ho⟩, x_enter (by decide) (Nat.le_of_ble_eq_true rfl) ?_⟩
  show X (KM (some .int) (fun r h' => ∃ x, r = some (.int x) ∧ P x h')) RX3 cX3_minusSigns 3 (d + 1) h 0 [(0, .ref r0)] []
  refine x_iconst (v := (0 : Int32)) dX3_minusSigns_0 (by decide) ?_
  refine x_istore_n dX3_minusSigns_1 rfl (by decide) (lv' := [(1, .int (0 : Int32)), (0, .ref r0)]) rfl ?_
  refine x_iconst (v := (0 : Int32)) dX3_minusSigns_2 (by decide) ?_
  refine x_istore_n dX3_minusSigns_3 rfl (by decide) (lv' := [(2, .int (0 : Int32)), (1, .int (0 : Int32)), (0, .ref r0)]) rfl ?_
  refine x_perm [2, 1, 0] rfl ?_
  exact H
set_option maxRecDepth 20000 in
theorem r_X3_minusSigns_4 {d : Nat} {P : Int32 → Hp → Prop} {h : Hp} {r0 : Nat} {i1 : Int32} {i2 : Int32} (H : ∃ x1, gI h 3 r0 1 = some x1 ∧ ((x1 ≤ i2 → P (i1 / (2 : Int32)) h) ∧
  (¬ x1 ≤ i2 → ∃ q2, gR h 3 r0 0 = some q2 ∧ ∃ x3, lI h q2 i2 = some x3 ∧ CI M_J6_bitCount d [.int x3] h (fun x5 h4 => L_X3_minusSigns_4 d P h4 r0 (i1 + x5) (i2 + (1 : Int32)))))) : L_X3_minusSigns_4 d P h r0 i1 i2 := by
  show X (KM (some .int) (fun r h' => ∃ x, r = some (.int x) ∧ P x h')) RX3 cX3_minusSigns 3 (d + 1) h 4 [(0, .ref r0), (1, .int i1), (2, .int i2)] []
  refine x_iload_n dX3_minusSigns_4 rfl 2 rfl ?_
  refine x_aload_n dX3_minusSigns_5 rfl 0 rfl ?_
  obtain ⟨x1, ex1, H⟩ := H
  refine x_getI fl_X3_15 dX3_minusSigns_6 ex1 ?_
  refine x_icmp_ge (tgt := 30) dX3_minusSigns_9 (by decide) (fun c => ?_) (fun c => ?_)
  · replace H := H.1 c
    refine x_iload_n dX3_minusSigns_30 rfl 1 rfl ?_
    refine x_iconst (v := (2 : Int32)) dX3_minusSigns_31 (by decide) ?_
    refine x_idiv dX3_minusSigns_32 (by decide) ?_
    exact x_iret dX3_minusSigns_33 ⟨_, rfl, H⟩
  · replace H := H.2 c
    refine x_iload_n dX3_minusSigns_12 rfl 1 rfl ?_
    refine x_aload_n dX3_minusSigns_13 rfl 0 rfl ?_
    obtain ⟨q2, eq2, H⟩ := H
    refine x_getR fl_X3_9 dX3_minusSigns_14 eq2 ?_
    refine x_iload_n dX3_minusSigns_17 rfl 2 rfl ?_
    obtain ⟨x3, ex3, H⟩ := H
    refine x_iaload dX3_minusSigns_18 ex3 ?_
    refine x_sI sl_X3_35 dX3_minusSigns_19 (As := [.int x3]) rfl rfl (Nat.le_of_ble_eq_true rfl) (CI.mono H (fun x5 h4 H => ?_))
    refine x_iadd dX3_minusSigns_22 ?_
    refine x_istore_n dX3_minusSigns_23 rfl (by decide) (lv' := [(1, .int (i1 + x5)), (0, .ref r0), (2, .int i2)]) rfl ?_
    refine x_iinc (q := 2) (v := (i2 + (1 : Int32))) dX3_minusSigns_24 rfl rfl (by decide) (lv' := [(2, .int (i2 + (1 : Int32))), (1, .int (i1 + x5)), (0, .ref r0)]) rfl ?_
    refine x_goto (tgt := 4) dX3_minusSigns_27 (by decide) ?_
    refine x_perm [2, 1, 0] rfl ?_
    exact H
set_option maxRecDepth 20000 in
theorem e_X3_oddTriplesWith {d : Nat} {P : Int32 → Hp → Prop} {h : Hp} {r0 : Nat} {i1 : Int32} {i2 : Int32} (ho : r0 < 47 ∧ ∃ fs, h r0 = .inr (3, fs)) (H : ∃ q1, gR h 3 r0 0 = some q1 ∧ ∃ x2, lI h q1 i1 = some x2 ∧ ∃ q3, gR h 3 r0 0 = some q3 ∧ ∃ x4, lI h q3 i2 = some x4 ∧ CI M_X3_isMinus d [.ref r0, .int i1, .int i2] h (fun x6 h5 => ((x6 = 0 → ∃ x7, gI h5 3 r0 1 = some x7 ∧ CI M_J6_bitCount d [.int ((x2 ^^^ x4) &&& ((((ishl (1 : Int32) x7) - (1 : Int32)) &&& ((ishl (1 : Int32) i1) ^^^ (-1 : Int32))) &&& ((ishl (1 : Int32) i2) ^^^ (-1 : Int32))))] h5 (fun x9 h8 => P x9 h8)) ∧
  (¬ x6 = 0 → ∃ x10, gI h5 3 r0 1 = some x10 ∧ CI M_J6_bitCount d [.int (((x2 ^^^ x4) ^^^ (-1 : Int32)) &&& ((((ishl (1 : Int32) x10) - (1 : Int32)) &&& ((ishl (1 : Int32) i1) ^^^ (-1 : Int32))) &&& ((ishl (1 : Int32) i2) ^^^ (-1 : Int32))))] h5 (fun x12 h11 => P x12 h11))))) : CI M_X3_oddTriplesWith (d + 1) [.ref r0, .int i1, .int i2] h P := by
  refine ⟨⟨r0, rfl, ho⟩, x_enter (by decide) (Nat.le_of_ble_eq_true rfl) ?_⟩
  show X (KM (some .int) (fun r h' => ∃ x, r = some (.int x) ∧ P x h')) RX3 cX3_oddTriplesWith 6 (d + 1) h 0 [(0, .ref r0), (1, .int i1), (2, .int i2)] []
  refine x_aload_n dX3_oddTriplesWith_0 rfl 0 rfl ?_
  obtain ⟨q1, eq1, H⟩ := H
  refine x_getR fl_X3_9 dX3_oddTriplesWith_1 eq1 ?_
  refine x_iload_n dX3_oddTriplesWith_4 rfl 1 rfl ?_
  obtain ⟨x2, ex2, H⟩ := H
  refine x_iaload dX3_oddTriplesWith_5 ex2 ?_
  refine x_aload_n dX3_oddTriplesWith_6 rfl 0 rfl ?_
  obtain ⟨q3, eq3, H⟩ := H
  refine x_getR fl_X3_9 dX3_oddTriplesWith_7 eq3 ?_
  refine x_iload_n dX3_oddTriplesWith_10 rfl 2 rfl ?_
  obtain ⟨x4, ex4, H⟩ := H
  refine x_iaload dX3_oddTriplesWith_11 ex4 ?_
  refine x_ixor dX3_oddTriplesWith_12 ?_
  refine x_istore_n dX3_oddTriplesWith_13 rfl (by decide) (lv' := [(3, .int (x2 ^^^ x4)), (0, .ref r0), (1, .int i1), (2, .int i2)]) rfl ?_
  refine x_aload_n dX3_oddTriplesWith_14 rfl 1 rfl ?_
  refine x_iload_n dX3_oddTriplesWith_15 rfl 2 rfl ?_
  refine x_iload_n dX3_oddTriplesWith_16 rfl 3 rfl ?_
  refine x_vI vl_X3_31 dX3_oddTriplesWith_17 (As := [.int i1, .int i2]) rfl rfl (Nat.le_of_ble_eq_true rfl) (CI.mono H (fun x6 h5 H => ?_))
  refine x_if_eq (tgt := 29) dX3_oddTriplesWith_20 (by decide) (fun c => ?_) (fun c => ?_)
  · replace H := H.1 c
    refine x_iload_n dX3_oddTriplesWith_29 rfl 0 rfl ?_
    refine x_istore dX3_oddTriplesWith_30 (by decide) (lv' := [(4, .int (x2 ^^^ x4)), (3, .int (x2 ^^^ x4)), (0, .ref r0), (1, .int i1), (2, .int i2)]) rfl ?_
    refine x_iconst (v := (1 : Int32)) dX3_oddTriplesWith_32 (by decide) ?_
    refine x_aload_n dX3_oddTriplesWith_33 rfl 2 rfl ?_
    obtain ⟨x7, ex7, H⟩ := H
    refine x_getI fl_X3_15 dX3_oddTriplesWith_34 ex7 ?_
    refine x_ishl dX3_oddTriplesWith_37 ?_
    refine x_iconst (v := (1 : Int32)) dX3_oddTriplesWith_38 (by decide) ?_
    refine x_isub dX3_oddTriplesWith_39 ?_
    refine x_iconst (v := (1 : Int32)) dX3_oddTriplesWith_40 (by decide) ?_
    refine x_iload_n dX3_oddTriplesWith_41 rfl 3 rfl ?_
    refine x_ishl dX3_oddTriplesWith_42 ?_
    refine x_iconst (v := (-1 : Int32)) dX3_oddTriplesWith_43 (by decide) ?_
    refine x_ixor dX3_oddTriplesWith_44 ?_
    refine x_iand dX3_oddTriplesWith_45 ?_
    refine x_iconst (v := (1 : Int32)) dX3_oddTriplesWith_46 (by decide) ?_
    refine x_iload_n dX3_oddTriplesWith_47 rfl 4 rfl ?_
    refine x_ishl dX3_oddTriplesWith_48 ?_
    refine x_iconst (v := (-1 : Int32)) dX3_oddTriplesWith_49 (by decide) ?_
    refine x_ixor dX3_oddTriplesWith_50 ?_
    refine x_iand dX3_oddTriplesWith_51 ?_
    refine x_istore dX3_oddTriplesWith_52 (by decide) (lv' := [(5, .int ((((ishl (1 : Int32) x7) - (1 : Int32)) &&& ((ishl (1 : Int32) i1) ^^^ (-1 : Int32))) &&& ((ishl (1 : Int32) i2) ^^^ (-1 : Int32)))), (4, .int (x2 ^^^ x4)), (3, .int (x2 ^^^ x4)), (0, .ref r0), (1, .int i1), (2, .int i2)]) rfl ?_
    refine x_iload dX3_oddTriplesWith_54 1 rfl ?_
    refine x_iload dX3_oddTriplesWith_56 0 rfl ?_
    refine x_iand dX3_oddTriplesWith_58 ?_
    refine x_sI sl_X3_35 dX3_oddTriplesWith_59 (As := [.int ((x2 ^^^ x4) &&& ((((ishl (1 : Int32) x7) - (1 : Int32)) &&& ((ishl (1 : Int32) i1) ^^^ (-1 : Int32))) &&& ((ishl (1 : Int32) i2) ^^^ (-1 : Int32))))]) rfl rfl (Nat.le_of_ble_eq_true rfl) (CI.mono H (fun x9 h8 H => ?_))
    exact x_iret dX3_oddTriplesWith_62 ⟨_, rfl, H⟩
  · replace H := H.2 c
    refine x_iload_n dX3_oddTriplesWith_23 rfl 0 rfl ?_
    refine x_iconst (v := (-1 : Int32)) dX3_oddTriplesWith_24 (by decide) ?_
    refine x_ixor dX3_oddTriplesWith_25 ?_
    refine x_goto (tgt := 30) dX3_oddTriplesWith_26 (by decide) ?_
    refine x_istore dX3_oddTriplesWith_30 (by decide) (lv' := [(4, .int ((x2 ^^^ x4) ^^^ (-1 : Int32))), (3, .int (x2 ^^^ x4)), (0, .ref r0), (1, .int i1), (2, .int i2)]) rfl ?_
    refine x_iconst (v := (1 : Int32)) dX3_oddTriplesWith_32 (by decide) ?_
    refine x_aload_n dX3_oddTriplesWith_33 rfl 2 rfl ?_
    obtain ⟨x10, ex10, H⟩ := H
    refine x_getI fl_X3_15 dX3_oddTriplesWith_34 ex10 ?_
    refine x_ishl dX3_oddTriplesWith_37 ?_
    refine x_iconst (v := (1 : Int32)) dX3_oddTriplesWith_38 (by decide) ?_
    refine x_isub dX3_oddTriplesWith_39 ?_
    refine x_iconst (v := (1 : Int32)) dX3_oddTriplesWith_40 (by decide) ?_
    refine x_iload_n dX3_oddTriplesWith_41 rfl 3 rfl ?_
    refine x_ishl dX3_oddTriplesWith_42 ?_
    refine x_iconst (v := (-1 : Int32)) dX3_oddTriplesWith_43 (by decide) ?_
    refine x_ixor dX3_oddTriplesWith_44 ?_
    refine x_iand dX3_oddTriplesWith_45 ?_
    refine x_iconst (v := (1 : Int32)) dX3_oddTriplesWith_46 (by decide) ?_
    refine x_iload_n dX3_oddTriplesWith_47 rfl 4 rfl ?_
    refine x_ishl dX3_oddTriplesWith_48 ?_
    refine x_iconst (v := (-1 : Int32)) dX3_oddTriplesWith_49 (by decide) ?_
    refine x_ixor dX3_oddTriplesWith_50 ?_
    refine x_iand dX3_oddTriplesWith_51 ?_
    refine x_istore dX3_oddTriplesWith_52 (by decide) (lv' := [(5, .int ((((ishl (1 : Int32) x10) - (1 : Int32)) &&& ((ishl (1 : Int32) i1) ^^^ (-1 : Int32))) &&& ((ishl (1 : Int32) i2) ^^^ (-1 : Int32)))), (4, .int ((x2 ^^^ x4) ^^^ (-1 : Int32))), (3, .int (x2 ^^^ x4)), (0, .ref r0), (1, .int i1), (2, .int i2)]) rfl ?_
    refine x_iload dX3_oddTriplesWith_54 1 rfl ?_
    refine x_iload dX3_oddTriplesWith_56 0 rfl ?_
    refine x_iand dX3_oddTriplesWith_58 ?_
    refine x_sI sl_X3_35 dX3_oddTriplesWith_59 (As := [.int (((x2 ^^^ x4) ^^^ (-1 : Int32)) &&& ((((ishl (1 : Int32) x10) - (1 : Int32)) &&& ((ishl (1 : Int32) i1) ^^^ (-1 : Int32))) &&& ((ishl (1 : Int32) i2) ^^^ (-1 : Int32))))]) rfl rfl (Nat.le_of_ble_eq_true rfl) (CI.mono H (fun x12 h11 H => ?_))
    exact x_iret dX3_oddTriplesWith_62 ⟨_, rfl, H⟩
def L_X3_oddTriples_4 (d : Nat) (P : Int32 → Hp → Prop) (h : Hp) (r0 : Nat) (i1 : Int32) (i2 : Int32) : Prop := X (KM (some .int) (fun r h' => ∃ x, r = some (.int x) ∧ P x h')) RX3 cX3_oddTriples 4 (d + 1) h 4 [(0, .ref r0), (1, .int i1), (2, .int i2)] []
def L_X3_oddTriples_14 (d : Nat) (P : Int32 → Hp → Prop) (h : Hp) (r0 : Nat) (i1 : Int32) (i2 : Int32) (i3 : Int32) : Prop := X (KM (some .int) (fun r h' => ∃ x, r = some (.int x) ∧ P x h')) RX3 cX3_oddTriples 4 (d + 1) h 14 [(0, .ref r0), (1, .int i1), (2, .int i2), (3, .int i3)] []
set_option maxRecDepth 20000 in
theorem e_X3_oddTriples {d : Nat} {P : Int32 → Hp → Prop} {h : Hp} {r0 : Nat} (ho : r0 < 47 ∧ ∃ fs, h r0 = .inr (3, fs)) (H : L_X3_oddTriples_4 d P h r0 (0 : Int32) (1 : Int32)) : CI M_X3_oddTriples (d + 1) [.ref r0] h P := by
  refine ⟨⟨r0, rfl, ho⟩, x_enter (by decide) (Nat.le_of_ble_eq_true rfl) ?_⟩
  show X (KM (some .int) (fun r h' => ∃ x, r = some (.int x) ∧ P x h')) RX3 cX3_oddTriples 4 (d + 1) h 0 [(0, .ref r0)] []
  refine x_iconst (v := (0 : Int32)) dX3_oddTriples_0 (by decide) ?_
  refine x_istore_n dX3_oddTriples_1 rfl (by decide) (lv' := [(1, .int (0 : Int32)), (0, .ref r0)]) rfl ?_
  refine x_iconst (v := (1 : Int32)) dX3_oddTriples_2 (by decide) ?_
  refine x_istore_n dX3_oddTriples_3 rfl (by decide) (lv' := [(2, .int (1 : Int32)), (1, .int (0 : Int32)), (0, .ref r0)]) rfl ?_
  refine x_perm [2, 1, 0] rfl ?_
  exact H
set_option maxRecDepth 20000 in
theorem r_X3_oddTriples_4 {d : Nat} {P : Int32 → Hp → Prop} {h : Hp} {r0 : Nat} {i1 : Int32} {i2 : Int32} (H : ∃ x1, gI h 3 r0 1 = some x1 ∧ ((x1 ≤ i2 → P (i1 / (3 : Int32)) h) ∧
  (¬ x1 ≤ i2 → L_X3_oddTriples_14 d P h r0 i1 i2 (0 : Int32)))) : L_X3_oddTriples_4 d P h r0 i1 i2 := by
  show X (KM (some .int) (fun r h' => ∃ x, r = some (.int x) ∧ P x h')) RX3 cX3_oddTriples 4 (d + 1) h 4 [(0, .ref r0), (1, .int i1), (2, .int i2)] []
  refine x_iload_n dX3_oddTriples_4 rfl 2 rfl ?_
  refine x_aload_n dX3_oddTriples_5 rfl 0 rfl ?_
  obtain ⟨x1, ex1, H⟩ := H
  refine x_getI fl_X3_15 dX3_oddTriples_6 ex1 ?_
  refine x_icmp_ge (tgt := 40) dX3_oddTriples_9 (by decide) (fun c => ?_) (fun c => ?_)
  · replace H := H.1 c
    refine x_iload_n dX3_oddTriples_40 rfl 1 rfl ?_
    refine x_iconst (v := (3 : Int32)) dX3_oddTriples_41 (by decide) ?_
    refine x_idiv dX3_oddTriples_42 (by decide) ?_
    exact x_iret dX3_oddTriples_43 ⟨_, rfl, H⟩
  · replace H := H.2 c
    refine x_iconst (v := (0 : Int32)) dX3_oddTriples_12 (by decide) ?_
    refine x_istore_n dX3_oddTriples_13 rfl (by decide) (lv' := [(3, .int (0 : Int32)), (0, .ref r0), (1, .int i1), (2, .int i2)]) rfl ?_
    refine x_perm [1, 2, 3, 0] rfl ?_
    exact H
set_option maxRecDepth 20000 in
theorem r_X3_oddTriples_14 {d : Nat} {P : Int32 → Hp → Prop} {h : Hp} {r0 : Nat} {i1 : Int32} {i2 : Int32} {i3 : Int32} (H : ((i2 ≤ i3 → L_X3_oddTriples_4 d P h r0 i1 (i2 + (1 : Int32))) ∧
  (¬ i2 ≤ i3 → CI M_X3_oddTriplesWith d [.ref r0, .int i3, .int i2] h (fun x2 h1 => L_X3_oddTriples_14 d P h1 r0 (i1 + x2) i2 (i3 + (1 : Int32)))))) : L_X3_oddTriples_14 d P h r0 i1 i2 i3 := by
  show X (KM (some .int) (fun r h' => ∃ x, r = some (.int x) ∧ P x h')) RX3 cX3_oddTriples 4 (d + 1) h 14 [(0, .ref r0), (1, .int i1), (2, .int i2), (3, .int i3)] []
  refine x_iload_n dX3_oddTriples_14 rfl 3 rfl ?_
  refine x_iload_n dX3_oddTriples_15 rfl 2 rfl ?_
  refine x_icmp_ge (tgt := 34) dX3_oddTriples_16 (by decide) (fun c => ?_) (fun c => ?_)
  · replace H := H.1 c
    refine x_iinc (q := 2) (v := (i2 + (1 : Int32))) dX3_oddTriples_34 rfl rfl (by decide) (lv' := [(2, .int (i2 + (1 : Int32))), (0, .ref r0), (1, .int i1), (3, .int i3)]) rfl ?_
    refine x_goto (tgt := 4) dX3_oddTriples_37 (by decide) ?_
    refine x_perm [1, 2, 0] rfl ?_
    exact H
  · replace H := H.2 c
    refine x_iload_n dX3_oddTriples_19 rfl 1 rfl ?_
    refine x_aload_n dX3_oddTriples_20 rfl 0 rfl ?_
    refine x_iload_n dX3_oddTriples_21 rfl 3 rfl ?_
    refine x_iload_n dX3_oddTriples_22 rfl 2 rfl ?_
    refine x_vI vl_X3_41 dX3_oddTriples_23 (As := [.int i3, .int i2]) rfl rfl (Nat.le_of_ble_eq_true rfl) (CI.mono H (fun x2 h1 H => ?_))
    refine x_iadd dX3_oddTriples_26 ?_
    refine x_istore_n dX3_oddTriples_27 rfl (by decide) (lv' := [(1, .int (i1 + x2)), (0, .ref r0), (2, .int i2), (3, .int i3)]) rfl ?_
    refine x_iinc (q := 3) (v := (i3 + (1 : Int32))) dX3_oddTriples_28 rfl rfl (by decide) (lv' := [(3, .int (i3 + (1 : Int32))), (1, .int (i1 + x2)), (0, .ref r0), (2, .int i2)]) rfl ?_
    refine x_goto (tgt := 14) dX3_oddTriples_31 (by decide) ?_
    refine x_perm [2, 1, 3, 0] rfl ?_
    exact H
