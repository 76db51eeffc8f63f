set_option maxRecDepth 20000 in
theorem e_J6_bitCount {d : Nat} {P : Int32 → Hp → Prop} {h : Hp} {i0 : Int32} (H : P ((((((((i0 - ((iushr i0 (1 : Int32)) &&& (1431655765 : Int32))) &&& (858993459 : Int32)) + ((iushr (i0 - ((iushr i0 (1 : Int32)) &&& (1431655765 : Int32))) (2 : Int32)) &&& (858993459 : Int32))) + (iushr (((i0 - ((iushr i0 (1 : Int32)) &&& (1431655765 : Int32))) &&& (858993459 : Int32)) + ((iushr (i0 - ((iushr i0 (1 : Int32)) &&& (1431655765 : Int32))) (2 : Int32)) &&& (858993459 : Int32))) (4 : Int32))) &&& (252645135 : Int32)) + (iushr (((((i0 - ((iushr i0 (1 : Int32)) &&& (1431655765 : Int32))) &&& (858993459 : Int32)) + ((iushr (i0 - ((iushr i0 (1 : Int32)) &&& (1431655765 : Int32))) (2 : Int32)) &&& (858993459 : Int32))) + (iushr (((i0 - ((iushr i0 (1 : Int32)) &&& (1431655765 : Int32))) &&& (858993459 : Int32)) + ((iushr (i0 - ((iushr i0 (1 : Int32)) &&& (1431655765 : Int32))) (2 : Int32)) &&& (858993459 : Int32))) (4 : Int32))) &&& (252645135 : Int32)) (8 : Int32))) + (iushr ((((((i0 - ((iushr i0 (1 : Int32)) &&& (1431655765 : Int32))) &&& (858993459 : Int32)) + ((iushr (i0 - ((iushr i0 (1 : Int32)) &&& (1431655765 : Int32))) (2 : Int32)) &&& (858993459 : Int32))) + (iushr (((i0 - ((iushr i0 (1 : Int32)) &&& (1431655765 : Int32))) &&& (858993459 : Int32)) + ((iushr (i0 - ((iushr i0 (1 : Int32)) &&& (1431655765 : Int32))) (2 : Int32)) &&& (858993459 : Int32))) (4 : Int32))) &&& (252645135 : Int32)) + (iushr (((((i0 - ((iushr i0 (1 : Int32)) &&& (1431655765 : Int32))) &&& (858993459 : Int32)) + ((iushr (i0 - ((iushr i0 (1 : Int32)) &&& (1431655765 : Int32))) (2 : Int32)) &&& (858993459 : Int32))) + (iushr (((i0 - ((iushr i0 (1 : Int32)) &&& (1431655765 : Int32))) &&& (858993459 : Int32)) + ((iushr (i0 - ((iushr i0 (1 : Int32)) &&& (1431655765 : Int32))) (2 : Int32)) &&& (858993459 : Int32))) (4 : Int32))) &&& (252645135 : Int32)) (8 : Int32))) (16 : Int32))) &&& (63 : Int32)) h) : CI M_J6_bitCount (d + 1) [.int i0] h P := by
  refine ⟨trivial, x_enter (by decide) (Nat.le_of_ble_eq_true rfl) ?_⟩
  show X (KM (some .int) (fun r h' => ∃ x, r = some (.int x) ∧ P x h')) RJ6 cJ6_bitCount_0f7a4 1 (d + 1) h 0 [(0, .int i0)] []
  refine x_iload_n dJ6_bitCount_0f7a4_0 rfl 0 rfl ?_
  refine x_iload_n dJ6_bitCount_0f7a4_1 rfl 0 rfl ?_
  refine x_iconst (v := (1 : Int32)) dJ6_bitCount_0f7a4_2 (by decide) ?_
  refine x_iushr dJ6_bitCount_0f7a4_3 ?_
  refine x_ldcw (v := (1431655765 : Int32)) (lw_gm (i := 212) (by decide +kernel) rfl) dJ6_bitCount_0f7a4_4 ?_
  refine x_iand dJ6_bitCount_0f7a4_7 ?_
  refine x_isub dJ6_bitCount_0f7a4_8 ?_
  refine x_istore_n dJ6_bitCount_0f7a4_9 rfl (by decide) (lv' := [(0, .int (i0 - ((iushr i0 (1 : Int32)) &&& (1431655765 : Int32))))]) rfl ?_
  refine x_iload_n dJ6_bitCount_0f7a4_10 rfl 0 rfl ?_
  refine x_ldcw (v := (858993459 : Int32)) (lw_gm (i := 213) (by decide +kernel) rfl) dJ6_bitCount_0f7a4_11 ?_
  refine x_iand dJ6_bitCount_0f7a4_14 ?_
  refine x_iload_n dJ6_bitCount_0f7a4_15 rfl 0 rfl ?_
  refine x_iconst (v := (2 : Int32)) dJ6_bitCount_0f7a4_16 (by decide) ?_
  refine x_iushr dJ6_bitCount_0f7a4_17 ?_
  refine x_ldcw (v := (858993459 : Int32)) (lw_gm (i := 213) (by decide +kernel) rfl) dJ6_bitCount_0f7a4_18 ?_
  refine x_iand dJ6_bitCount_0f7a4_21 ?_
  refine x_iadd dJ6_bitCount_0f7a4_22 ?_
  refine x_istore_n dJ6_bitCount_0f7a4_23 rfl (by decide) (lv' := [(0, .int (((i0 - ((iushr i0 (1 : Int32)) &&& (1431655765 : Int32))) &&& (858993459 : Int32)) + ((iushr (i0 - ((iushr i0 (1 : Int32)) &&& (1431655765 : Int32))) (2 : Int32)) &&& (858993459 : Int32))))]) rfl ?_
  refine x_iload_n dJ6_bitCount_0f7a4_24 rfl 0 rfl ?_
  refine x_iload_n dJ6_bitCount_0f7a4_25 rfl 0 rfl ?_
  refine x_iconst (v := (4 : Int32)) dJ6_bitCount_0f7a4_26 (by decide) ?_
  refine x_iushr dJ6_bitCount_0f7a4_27 ?_
  refine x_iadd dJ6_bitCount_0f7a4_28 ?_
  refine x_ldcw (v := (252645135 : Int32)) (lw_gm (i := 214) (by decide +kernel) rfl) dJ6_bitCount_0f7a4_29 ?_
  refine x_iand dJ6_bitCount_0f7a4_32 ?_
  refine x_istore_n dJ6_bitCount_0f7a4_33 rfl (by decide) (lv' := [(0, .int (((((i0 - ((iushr i0 (1 : Int32)) &&& (1431655765 : Int32))) &&& (858993459 : Int32)) + ((iushr (i0 - ((iushr i0 (1 : Int32)) &&& (1431655765 : Int32))) (2 : Int32)) &&& (858993459 : Int32))) + (iushr (((i0 - ((iushr i0 (1 : Int32)) &&& (1431655765 : Int32))) &&& (858993459 : Int32)) + ((iushr (i0 - ((iushr i0 (1 : Int32)) &&& (1431655765 : Int32))) (2 : Int32)) &&& (858993459 : Int32))) (4 : Int32))) &&& (252645135 : Int32)))]) rfl ?_
  refine x_iload_n dJ6_bitCount_0f7a4_34 rfl 0 rfl ?_
  refine x_iload_n dJ6_bitCount_0f7a4_35 rfl 0 rfl ?_
  refine x_bipush (v := (8 : Int32)) dJ6_bitCount_0f7a4_36 (by decide) ?_
  refine x_iushr dJ6_bitCount_0f7a4_38 ?_
  refine x_iadd dJ6_bitCount_0f7a4_39 ?_
  refine x_istore_n dJ6_bitCount_0f7a4_40 rfl (by decide) (lv' := [(0, .int ((((((i0 - ((iushr i0 (1 : Int32)) &&& (1431655765 : Int32))) &&& (858993459 : Int32)) + ((iushr (i0 - ((iushr i0 (1 : Int32)) &&& (1431655765 : Int32))) (2 : Int32)) &&& (858993459 : Int32))) + (iushr (((i0 - ((iushr i0 (1 : Int32)) &&& (1431655765 : Int32))) &&& (858993459 : Int32)) + ((iushr (i0 - ((iushr i0 (1 : Int32)) &&& (1431655765 : Int32))) (2 : Int32)) &&& (858993459 : Int32))) (4 : Int32))) &&& (252645135 : Int32)) + (iushr (((((i0 - ((iushr i0 (1 : Int32)) &&& (1431655765 : Int32))) &&& (858993459 : Int32)) + ((iushr (i0 - ((iushr i0 (1 : Int32)) &&& (1431655765 : Int32))) (2 : Int32)) &&& (858993459 : Int32))) + (iushr (((i0 - ((iushr i0 (1 : Int32)) &&& (1431655765 : Int32))) &&& (858993459 : Int32)) + ((iushr (i0 - ((iushr i0 (1 : Int32)) &&& (1431655765 : Int32))) (2 : Int32)) &&& (858993459 : Int32))) (4 : Int32))) &&& (252645135 : Int32)) (8 : Int32))))]) rfl ?_
  refine x_iload_n dJ6_bitCount_0f7a4_41 rfl 0 rfl ?_
  refine x_iload_n dJ6_bitCount_0f7a4_42 rfl 0 rfl ?_
  refine x_bipush (v := (16 : Int32)) dJ6_bitCount_0f7a4_43 (by decide) ?_
  refine x_iushr dJ6_bitCount_0f7a4_45 ?_
  refine x_iadd dJ6_bitCount_0f7a4_46 ?_
  refine x_istore_n dJ6_bitCount_0f7a4_47 rfl (by decide) (lv' := [(0, .int (((((((i0 - ((iushr i0 (1 : Int32)) &&& (1431655765 : Int32))) &&& (858993459 : Int32)) + ((iushr (i0 - ((iushr i0 (1 : Int32)) &&& (1431655765 : Int32))) (2 : Int32)) &&& (858993459 : Int32))) + (iushr (((i0 - ((iushr i0 (1 : Int32)) &&& (1431655765 : Int32))) &&& (858993459 : Int32)) + ((iushr (i0 - ((iushr i0 (1 : Int32)) &&& (1431655765 : Int32))) (2 : Int32)) &&& (858993459 : Int32))) (4 : Int32))) &&& (252645135 : Int32)) + (iushr (((((i0 - ((iushr i0 (1 : Int32)) &&& (1431655765 : Int32))) &&& (858993459 : Int32)) + ((iushr (i0 - ((iushr i0 (1 : Int32)) &&& (1431655765 : Int32))) (2 : Int32)) &&& (858993459 : Int32))) + (iushr (((i0 - ((iushr i0 (1 : Int32)) &&& (1431655765 : Int32))) &&& (858993459 : Int32)) + ((iushr (i0 - ((iushr i0 (1 : Int32)) &&& (1431655765 : Int32))) (2 : Int32)) &&& (858993459 : Int32))) (4 : Int32))) &&& (252645135 : Int32)) (8 : Int32))) + (iushr ((((((i0 - ((iushr i0 (1 : Int32)) &&& (1431655765 : Int32))) &&& (858993459 : Int32)) + ((iushr (i0 - ((iushr i0 (1 : Int32)) &&& (1431655765 : Int32))) (2 : Int32)) &&& (858993459 : Int32))) + (iushr (((i0 - ((iushr i0 (1 : Int32)) &&& (1431655765 : Int32))) &&& (858993459 : Int32)) + ((iushr (i0 - ((iushr i0 (1 : Int32)) &&& (1431655765 : Int32))) (2 : Int32)) &&& (858993459 : Int32))) (4 : Int32))) &&& (252645135 : Int32)) + (iushr (((((i0 - ((iushr i0 (1 : Int32)) &&& (1431655765 : Int32))) &&& (858993459 : Int32)) + ((iushr (i0 - ((iushr i0 (1 : Int32)) &&& (1431655765 : Int32))) (2 : Int32)) &&& (858993459 : Int32))) + (iushr (((i0 - ((iushr i0 (1 : Int32)) &&& (1431655765 : Int32))) &&& (858993459 : Int32)) + ((iushr (i0 - ((iushr i0 (1 : Int32)) &&& (1431655765 : Int32))) (2 : Int32)) &&& (858993459 : Int32))) (4 : Int32))) &&& (252645135 : Int32)) (8 : Int32))) (16 : Int32))))]) rfl ?_
  refine x_iload_n dJ6_bitCount_0f7a4_48 rfl 0 rfl ?_
  refine x_bipush (v := (63 : Int32)) dJ6_bitCount_0f7a4_49 (by decide) ?_
  refine x_iand dJ6_bitCount_0f7a4_51 ?_
  exact x_iret dJ6_bitCount_0f7a4_52 ⟨_, rfl, H⟩
