set_option maxHeartbeats 4000000 in
set_option maxRecDepth 100000 in
theorem c_X5_init (l : Launch) (dC : Nat → ClassId) (dI : Nat → Nat → Nat) (cA : Nat → ClassId) (h0 sz : Nat) : Met l yX5_init (wsM M_X5_init) ({ frames := 1, cells := 14, slots := 1052, locals := 12 }) (va_Pc [.ref h0] (PI dC dI cA sz [(h0, .inr (5, [.int 0, .null, .int 0, .null, .null, .null, .null, .null, .null, .null, .null, .null, .null, .null, .null, .null, .int 0]))])) (QI (S := Nat → Nat) dC dI (wc5 cA h0) (va_A [(h0, .inr (5, [.int 0, .null, .int 0, .null, .null, .null, .null, .null, .null, .null, .null, .null, .null, .null, .null, .null, .int 0]))] sz)) 14 1052 (va_A [(h0, .inr (5, [.int 0, .null, .int 0, .null, .null, .null, .null, .null, .null, .null, .null, .null, .null, .null, .null, .null, .int 0]))] sz) := by
  refine Met.ofW (cc := cX5_init) (maxL := 1) (ret := none) (by decide) rfl ?_
  intro p e s m args below meth c s₁ B hml hv
  obtain ⟨rfl, hsz, hP, hK, hO, hD0⟩ := hv
  have hx := B.exec
  have hb := B.bytes
  have hr := B.returns
  have hts0 := atoms_spec (ws := wsM M_X5_init) B.pre
  have hts : ∀ w ∈ lw_g, w.before #[Value.ref h0] s = true := fun w hw => hts0 w (List.mem_cons_of_mem _ hw)
  have hown : s.vm.findClass RX5 = some m.cls := findClass_of_methodNamed B.named
  have hlocks := B.notSynchronized
  have hin : meth.name = "<init>" := (name_of_methodNamed B.named B.method).1
  subst hsz
  have hD := hD0.self (sz := s.heap.size)
  generalize hAe : va_A [(h0, .inr (5, [.int 0, .null, .int 0, .null, .null, .null, .null, .null, .null, .null, .null, .null, .null, .null, .null, .null, .int 0]))] s.heap.size = A at hD ⊢
  have hA : ∀ q : Nat, s.heap.size ≤ q → A q := fun q h => by rw [← hAe]; exact Or.inr h
  have hS : va_S A s.heap s.heap [] := va_S.rf
  have hP : va_P (dC, dI) vwCl [(h0, .inr (5, [.int 0, .null, .int 0, .null, .null, .null, .null, .null, .null, .null, .null, .null, .null, .null, .null, .null, .int 0]))] s.heap := hP
  have hl := lv_entry ([.ref h0]) (n := 1) (Nat.le_of_ble_eq_true rfl)
  rw [lg_entry_eq]
  generalize (lg_sl ([.ref h0]) ++ List.replicate (1 - (lg_sl ([.ref h0])).length) Slot.unset).toArray = ls at hl ⊢
  have hl : lv_has ls 1 [(0, .ref h0)] := hl
  refine lv_aload_n hx hb dX5_init_0 rfl (lv_at hl 0 rfl) ?_
  refine W.objInit hx hb hown (hts _ kw_ml_X5_1) (hts _ kw_im_O) (hts _ kw_oi) rfl (by rw [hml]; exact hl.1) rfl dX5_init_1 (Nat.le_of_ble_eq_true rfl) (Nat.le_of_ble_eq_true rfl) ?_
  refine W.eq (g2 := F0 m 4 ls []) rfl ?_
  refine lv_aload_n hx hb dX5_init_4 rfl (lv_at hl 0 rfl) ?_
  refine lv_bipush (v := 100) hx hb dX5_init_5 (by decide) ?_
  refine kn_int hx hb (hts _ kw_ac_int) hK hP hD hS hA 100 (by decide) (by decide) (by decide) (Nat.le_of_ble_eq_true rfl) (Nat.le_of_ble_eq_true rfl) dX5_init_7 (fun q1 H hP hD hS => ?_)
  have hP : va_P (dC, dI) vwCl [(h0, .inr (5, [.int 0, .null, .int 0, .null, .null, .null, .null, .null, .null, .null, .null, .null, .null, .null, .null, .null, .int 0])), (q1, eI cA 100)] H := hP
  have hD : va_D A [(h0, .inr (5, [.int 0, .null, .int 0, .null, .null, .null, .null, .null, .null, .null, .null, .null, .null, .null, .null, .null, .int 0])), (q1, eI cA 100)] := hD
  refine W.widen (k := 1) (n := 100) (by decide) (by decide) ?_
  refine va_putF (D := (dC, dI)) (ci := 5) (v := .ref q1) (ty := .array .int) (C := RX5) (T := TX5) (N := 17) hx hb hts inW_X5 tyX5 tyX5_ok nmX5 hown hK hP hD hS 0 rfl rfl 1 (by decide) (hts _ kw_fl_X5_7) (fun _ h9 => h9) rfl hin rfl (by decide +kernel) rfl rfl (Nat.le_of_ble_eq_true rfl) dX5_init_9 (fun H locs hP hD hS => ?_)
  have hP : va_P (dC, dI) vwCl [(h0, .inr (5, [.int 0, .ref q1, .int 0, .null, .null, .null, .null, .null, .null, .null, .null, .null, .null, .null, .null, .null, .int 0])), (q1, eI cA 100)] H := hP
  have hD : va_D A [(h0, .inr (5, [.int 0, .ref q1, .int 0, .null, .null, .null, .null, .null, .null, .null, .null, .null, .null, .null, .null, .null, .int 0])), (q1, eI cA 100)] := hD
  refine lv_aload_n hx hb dX5_init_12 rfl (lv_at hl 0 rfl) ?_
  refine lv_iconst (v := 3) hx hb dX5_init_13 (by decide) ?_
  refine va_put (D := (dC, dI)) (ci := 5) (v := .int 3) (ty := .int) (C := RX5) (T := TX5) (N := 17) hx hb hts inW_X5 tyX5 tyX5_ok nmX5 hown hK hP hD hS 0 rfl rfl 2 (by decide) (hts _ kw_fl_X5_13) (fun _ h9 => h9) rfl (by decide +kernel) rfl rfl (Nat.le_of_ble_eq_true rfl) dX5_init_14 (fun H locs hP hD hS => ?_)
  have hP : va_P (dC, dI) vwCl [(h0, .inr (5, [.int 0, .ref q1, .int 3, .null, .null, .null, .null, .null, .null, .null, .null, .null, .null, .null, .null, .null, .int 0])), (q1, eI cA 100)] H := hP
  have hD : va_D A [(h0, .inr (5, [.int 0, .ref q1, .int 3, .null, .null, .null, .null, .null, .null, .null, .null, .null, .null, .null, .null, .null, .int 0])), (q1, eI cA 100)] := hD
  refine lv_aload_n hx hb dX5_init_17 rfl (lv_at hl 0 rfl) ?_
  refine lv_bipush (v := 100) hx hb dX5_init_18 (by decide) ?_
  refine kn_long hx hb (hts _ kw_ac_long) hK hP hD hS hA 100 (by decide) (by decide) (by decide) (Nat.le_of_ble_eq_true rfl) (Nat.le_of_ble_eq_true rfl) dX5_init_20 (fun q2 H hP hD hS => ?_)
  have hP : va_P (dC, dI) vwCl [(h0, .inr (5, [.int 0, .ref q1, .int 3, .null, .null, .null, .null, .null, .null, .null, .null, .null, .null, .null, .null, .null, .int 0])), (q1, eI cA 100), (q2, eJ cA 100)] H := hP
  have hD : va_D A [(h0, .inr (5, [.int 0, .ref q1, .int 3, .null, .null, .null, .null, .null, .null, .null, .null, .null, .null, .null, .null, .null, .int 0])), (q1, eI cA 100), (q2, eJ cA 100)] := hD
  refine W.widen (k := 2) (n := 200) (by decide) (by decide) ?_
  refine va_putF (D := (dC, dI)) (ci := 5) (v := .ref q2) (ty := .array .long) (C := RX5) (T := TX5) (N := 17) hx hb hts inW_X5 tyX5 tyX5_ok nmX5 hown hK hP hD hS 0 rfl rfl 3 (by decide) (hts _ kw_fl_X5_17) (fun _ h9 => h9) rfl hin rfl (by decide +kernel) rfl rfl (Nat.le_of_ble_eq_true rfl) dX5_init_22 (fun H locs hP hD hS => ?_)
  have hP : va_P (dC, dI) vwCl [(h0, .inr (5, [.int 0, .ref q1, .int 3, .ref q2, .null, .null, .null, .null, .null, .null, .null, .null, .null, .null, .null, .null, .int 0])), (q1, eI cA 100), (q2, eJ cA 100)] H := hP
  have hD : va_D A [(h0, .inr (5, [.int 0, .ref q1, .int 3, .ref q2, .null, .null, .null, .null, .null, .null, .null, .null, .null, .null, .null, .null, .int 0])), (q1, eI cA 100), (q2, eJ cA 100)] := hD
  refine lv_aload_n hx hb dX5_init_25 rfl (lv_at hl 0 rfl) ?_
  refine lv_bipush (v := 100) hx hb dX5_init_26 (by decide) ?_
  refine kn_long hx hb (hts _ kw_ac_long) hK hP hD hS hA 100 (by decide) (by decide) (by decide) (Nat.le_of_ble_eq_true rfl) (Nat.le_of_ble_eq_true rfl) dX5_init_28 (fun q3 H hP hD hS => ?_)
  have hP : va_P (dC, dI) vwCl [(h0, .inr (5, [.int 0, .ref q1, .int 3, .ref q2, .null, .null, .null, .null, .null, .null, .null, .null, .null, .null, .null, .null, .int 0])), (q1, eI cA 100), (q2, eJ cA 100), (q3, eJ cA 100)] H := hP
  have hD : va_D A [(h0, .inr (5, [.int 0, .ref q1, .int 3, .ref q2, .null, .null, .null, .null, .null, .null, .null, .null, .null, .null, .null, .null, .int 0])), (q1, eI cA 100), (q2, eJ cA 100), (q3, eJ cA 100)] := hD
  refine W.widen (k := 3) (n := 300) (by decide) (by decide) ?_
  refine va_putF (D := (dC, dI)) (ci := 5) (v := .ref q3) (ty := .array .long) (C := RX5) (T := TX5) (N := 17) hx hb hts inW_X5 tyX5 tyX5_ok nmX5 hown hK hP hD hS 0 rfl rfl 4 (by decide) (hts _ kw_fl_X5_21) (fun _ h9 => h9) rfl hin rfl (by decide +kernel) rfl rfl (Nat.le_of_ble_eq_true rfl) dX5_init_30 (fun H locs hP hD hS => ?_)
  have hP : va_P (dC, dI) vwCl [(h0, .inr (5, [.int 0, .ref q1, .int 3, .ref q2, .ref q3, .null, .null, .null, .null, .null, .null, .null, .null, .null, .null, .null, .int 0])), (q1, eI cA 100), (q2, eJ cA 100), (q3, eJ cA 100)] H := hP
  have hD : va_D A [(h0, .inr (5, [.int 0, .ref q1, .int 3, .ref q2, .ref q3, .null, .null, .null, .null, .null, .null, .null, .null, .null, .null, .null, .int 0])), (q1, eI cA 100), (q2, eJ cA 100), (q3, eJ cA 100)] := hD
  refine lv_aload_n hx hb dX5_init_33 rfl (lv_at hl 0 rfl) ?_
  refine lv_bipush (v := 100) hx hb dX5_init_34 (by decide) ?_
  refine kn_long hx hb (hts _ kw_ac_long) hK hP hD hS hA 100 (by decide) (by decide) (by decide) (Nat.le_of_ble_eq_true rfl) (Nat.le_of_ble_eq_true rfl) dX5_init_36 (fun q4 H hP hD hS => ?_)
  have hP : va_P (dC, dI) vwCl [(h0, .inr (5, [.int 0, .ref q1, .int 3, .ref q2, .ref q3, .null, .null, .null, .null, .null, .null, .null, .null, .null, .null, .null, .int 0])), (q1, eI cA 100), (q2, eJ cA 100), (q3, eJ cA 100), (q4, eJ cA 100)] H := hP
  have hD : va_D A [(h0, .inr (5, [.int 0, .ref q1, .int 3, .ref q2, .ref q3, .null, .null, .null, .null, .null, .null, .null, .null, .null, .null, .null, .int 0])), (q1, eI cA 100), (q2, eJ cA 100), (q3, eJ cA 100), (q4, eJ cA 100)] := hD
  refine W.widen (k := 4) (n := 400) (by decide) (by decide) ?_
  refine va_putF (D := (dC, dI)) (ci := 5) (v := .ref q4) (ty := .array .long) (C := RX5) (T := TX5) (N := 17) hx hb hts inW_X5 tyX5 tyX5_ok nmX5 hown hK hP hD hS 0 rfl rfl 5 (by decide) (hts _ kw_fl_X5_24) (fun _ h9 => h9) rfl hin rfl (by decide +kernel) rfl rfl (Nat.le_of_ble_eq_true rfl) dX5_init_38 (fun H locs hP hD hS => ?_)
  have hP : va_P (dC, dI) vwCl [(h0, .inr (5, [.int 0, .ref q1, .int 3, .ref q2, .ref q3, .ref q4, .null, .null, .null, .null, .null, .null, .null, .null, .null, .null, .int 0])), (q1, eI cA 100), (q2, eJ cA 100), (q3, eJ cA 100), (q4, eJ cA 100)] H := hP
  have hD : va_D A [(h0, .inr (5, [.int 0, .ref q1, .int 3, .ref q2, .ref q3, .ref q4, .null, .null, .null, .null, .null, .null, .null, .null, .null, .null, .int 0])), (q1, eI cA 100), (q2, eJ cA 100), (q3, eJ cA 100), (q4, eJ cA 100)] := hD
  refine lv_aload_n hx hb dX5_init_41 rfl (lv_at hl 0 rfl) ?_
  refine lv_bipush (v := 11) hx hb dX5_init_42 (by decide) ?_
  refine kn_long hx hb (hts _ kw_ac_long) hK hP hD hS hA 11 (by decide) (by decide) (by decide) (Nat.le_of_ble_eq_true rfl) (Nat.le_of_ble_eq_true rfl) dX5_init_44 (fun q5 H hP hD hS => ?_)
  have hP : va_P (dC, dI) vwCl [(h0, .inr (5, [.int 0, .ref q1, .int 3, .ref q2, .ref q3, .ref q4, .null, .null, .null, .null, .null, .null, .null, .null, .null, .null, .int 0])), (q1, eI cA 100), (q2, eJ cA 100), (q3, eJ cA 100), (q4, eJ cA 100), (q5, eJ cA 11)] H := hP
  have hD : va_D A [(h0, .inr (5, [.int 0, .ref q1, .int 3, .ref q2, .ref q3, .ref q4, .null, .null, .null, .null, .null, .null, .null, .null, .null, .null, .int 0])), (q1, eI cA 100), (q2, eJ cA 100), (q3, eJ cA 100), (q4, eJ cA 100), (q5, eJ cA 11)] := hD
  refine W.widen (k := 5) (n := 411) (by decide) (by decide) ?_
  refine va_putF (D := (dC, dI)) (ci := 5) (v := .ref q5) (ty := .array .long) (C := RX5) (T := TX5) (N := 17) hx hb hts inW_X5 tyX5 tyX5_ok nmX5 hown hK hP hD hS 0 rfl rfl 6 (by decide) (hts _ kw_fl_X5_27) (fun _ h9 => h9) rfl hin rfl (by decide +kernel) rfl rfl (Nat.le_of_ble_eq_true rfl) dX5_init_46 (fun H locs hP hD hS => ?_)
  have hP : va_P (dC, dI) vwCl [(h0, .inr (5, [.int 0, .ref q1, .int 3, .ref q2, .ref q3, .ref q4, .ref q5, .null, .null, .null, .null, .null, .null, .null, .null, .null, .int 0])), (q1, eI cA 100), (q2, eJ cA 100), (q3, eJ cA 100), (q4, eJ cA 100), (q5, eJ cA 11)] H := hP
  have hD : va_D A [(h0, .inr (5, [.int 0, .ref q1, .int 3, .ref q2, .ref q3, .ref q4, .ref q5, .null, .null, .null, .null, .null, .null, .null, .null, .null, .int 0])), (q1, eI cA 100), (q2, eJ cA 100), (q3, eJ cA 100), (q4, eJ cA 100), (q5, eJ cA 11)] := hD
  refine lv_aload_n hx hb dX5_init_49 rfl (lv_at hl 0 rfl) ?_
  refine lv_bipush (v := 11) hx hb dX5_init_50 (by decide) ?_
  refine kn_long hx hb (hts _ kw_ac_long) hK hP hD hS hA 11 (by decide) (by decide) (by decide) (Nat.le_of_ble_eq_true rfl) (Nat.le_of_ble_eq_true rfl) dX5_init_52 (fun q6 H hP hD hS => ?_)
  have hP : va_P (dC, dI) vwCl [(h0, .inr (5, [.int 0, .ref q1, .int 3, .ref q2, .ref q3, .ref q4, .ref q5, .null, .null, .null, .null, .null, .null, .null, .null, .null, .int 0])), (q1, eI cA 100), (q2, eJ cA 100), (q3, eJ cA 100), (q4, eJ cA 100), (q5, eJ cA 11), (q6, eJ cA 11)] H := hP
  have hD : va_D A [(h0, .inr (5, [.int 0, .ref q1, .int 3, .ref q2, .ref q3, .ref q4, .ref q5, .null, .null, .null, .null, .null, .null, .null, .null, .null, .int 0])), (q1, eI cA 100), (q2, eJ cA 100), (q3, eJ cA 100), (q4, eJ cA 100), (q5, eJ cA 11), (q6, eJ cA 11)] := hD
  refine W.widen (k := 6) (n := 422) (by decide) (by decide) ?_
  refine va_putF (D := (dC, dI)) (ci := 5) (v := .ref q6) (ty := .array .long) (C := RX5) (T := TX5) (N := 17) hx hb hts inW_X5 tyX5 tyX5_ok nmX5 hown hK hP hD hS 0 rfl rfl 7 (by decide) (hts _ kw_fl_X5_30) (fun _ h9 => h9) rfl hin rfl (by decide +kernel) rfl rfl (Nat.le_of_ble_eq_true rfl) dX5_init_54 (fun H locs hP hD hS => ?_)
  have hP : va_P (dC, dI) vwCl [(h0, .inr (5, [.int 0, .ref q1, .int 3, .ref q2, .ref q3, .ref q4, .ref q5, .ref q6, .null, .null, .null, .null, .null, .null, .null, .null, .int 0])), (q1, eI cA 100), (q2, eJ cA 100), (q3, eJ cA 100), (q4, eJ cA 100), (q5, eJ cA 11), (q6, eJ cA 11)] H := hP
  have hD : va_D A [(h0, .inr (5, [.int 0, .ref q1, .int 3, .ref q2, .ref q3, .ref q4, .ref q5, .ref q6, .null, .null, .null, .null, .null, .null, .null, .null, .int 0])), (q1, eI cA 100), (q2, eJ cA 100), (q3, eJ cA 100), (q4, eJ cA 100), (q5, eJ cA 11), (q6, eJ cA 11)] := hD
  refine lv_aload_n hx hb dX5_init_57 rfl (lv_at hl 0 rfl) ?_
  refine lv_bipush (v := 11) hx hb dX5_init_58 (by decide) ?_
  refine kn_long hx hb (hts _ kw_ac_long) hK hP hD hS hA 11 (by decide) (by decide) (by decide) (Nat.le_of_ble_eq_true rfl) (Nat.le_of_ble_eq_true rfl) dX5_init_60 (fun q7 H hP hD hS => ?_)
  have hP : va_P (dC, dI) vwCl [(h0, .inr (5, [.int 0, .ref q1, .int 3, .ref q2, .ref q3, .ref q4, .ref q5, .ref q6, .null, .null, .null, .null, .null, .null, .null, .null, .int 0])), (q1, eI cA 100), (q2, eJ cA 100), (q3, eJ cA 100), (q4, eJ cA 100), (q5, eJ cA 11), (q6, eJ cA 11), (q7, eJ cA 11)] H := hP
  have hD : va_D A [(h0, .inr (5, [.int 0, .ref q1, .int 3, .ref q2, .ref q3, .ref q4, .ref q5, .ref q6, .null, .null, .null, .null, .null, .null, .null, .null, .int 0])), (q1, eI cA 100), (q2, eJ cA 100), (q3, eJ cA 100), (q4, eJ cA 100), (q5, eJ cA 11), (q6, eJ cA 11), (q7, eJ cA 11)] := hD
  refine W.widen (k := 7) (n := 433) (by decide) (by decide) ?_
  refine va_putF (D := (dC, dI)) (ci := 5) (v := .ref q7) (ty := .array .long) (C := RX5) (T := TX5) (N := 17) hx hb hts inW_X5 tyX5 tyX5_ok nmX5 hown hK hP hD hS 0 rfl rfl 8 (by decide) (hts _ kw_fl_X5_33) (fun _ h9 => h9) rfl hin rfl (by decide +kernel) rfl rfl (Nat.le_of_ble_eq_true rfl) dX5_init_62 (fun H locs hP hD hS => ?_)
  have hP : va_P (dC, dI) vwCl [(h0, .inr (5, [.int 0, .ref q1, .int 3, .ref q2, .ref q3, .ref q4, .ref q5, .ref q6, .ref q7, .null, .null, .null, .null, .null, .null, .null, .int 0])), (q1, eI cA 100), (q2, eJ cA 100), (q3, eJ cA 100), (q4, eJ cA 100), (q5, eJ cA 11), (q6, eJ cA 11), (q7, eJ cA 11)] H := hP
  have hD : va_D A [(h0, .inr (5, [.int 0, .ref q1, .int 3, .ref q2, .ref q3, .ref q4, .ref q5, .ref q6, .ref q7, .null, .null, .null, .null, .null, .null, .null, .int 0])), (q1, eI cA 100), (q2, eJ cA 100), (q3, eJ cA 100), (q4, eJ cA 100), (q5, eJ cA 11), (q6, eJ cA 11), (q7, eJ cA 11)] := hD
  refine lv_aload_n hx hb dX5_init_65 rfl (lv_at hl 0 rfl) ?_
  refine lv_bipush (v := 7) hx hb dX5_init_66 (by decide) ?_
  refine kn_int hx hb (hts _ kw_ac_int) hK hP hD hS hA 7 (by decide) (by decide) (by decide) (Nat.le_of_ble_eq_true rfl) (Nat.le_of_ble_eq_true rfl) dX5_init_68 (fun q8 H hP hD hS => ?_)
  have hP : va_P (dC, dI) vwCl [(h0, .inr (5, [.int 0, .ref q1, .int 3, .ref q2, .ref q3, .ref q4, .ref q5, .ref q6, .ref q7, .null, .null, .null, .null, .null, .null, .null, .int 0])), (q1, eI cA 100), (q2, eJ cA 100), (q3, eJ cA 100), (q4, eJ cA 100), (q5, eJ cA 11), (q6, eJ cA 11), (q7, eJ cA 11), (q8, eI cA 7)] H := hP
  have hD : va_D A [(h0, .inr (5, [.int 0, .ref q1, .int 3, .ref q2, .ref q3, .ref q4, .ref q5, .ref q6, .ref q7, .null, .null, .null, .null, .null, .null, .null, .int 0])), (q1, eI cA 100), (q2, eJ cA 100), (q3, eJ cA 100), (q4, eJ cA 100), (q5, eJ cA 11), (q6, eJ cA 11), (q7, eJ cA 11), (q8, eI cA 7)] := hD
  refine W.widen (k := 8) (n := 440) (by decide) (by decide) ?_
  refine va_putF (D := (dC, dI)) (ci := 5) (v := .ref q8) (ty := .array .int) (C := RX5) (T := TX5) (N := 17) hx hb hts inW_X5 tyX5 tyX5_ok nmX5 hown hK hP hD hS 0 rfl rfl 9 (by decide) (hts _ kw_fl_X5_36) (fun _ h9 => h9) rfl hin rfl (by decide +kernel) rfl rfl (Nat.le_of_ble_eq_true rfl) dX5_init_70 (fun H locs hP hD hS => ?_)
  have hP : va_P (dC, dI) vwCl [(h0, .inr (5, [.int 0, .ref q1, .int 3, .ref q2, .ref q3, .ref q4, .ref q5, .ref q6, .ref q7, .ref q8, .null, .null, .null, .null, .null, .null, .int 0])), (q1, eI cA 100), (q2, eJ cA 100), (q3, eJ cA 100), (q4, eJ cA 100), (q5, eJ cA 11), (q6, eJ cA 11), (q7, eJ cA 11), (q8, eI cA 7)] H := hP
  have hD : va_D A [(h0, .inr (5, [.int 0, .ref q1, .int 3, .ref q2, .ref q3, .ref q4, .ref q5, .ref q6, .ref q7, .ref q8, .null, .null, .null, .null, .null, .null, .int 0])), (q1, eI cA 100), (q2, eJ cA 100), (q3, eJ cA 100), (q4, eJ cA 100), (q5, eJ cA 11), (q6, eJ cA 11), (q7, eJ cA 11), (q8, eI cA 7)] := hD
  refine lv_aload_n hx hb dX5_init_73 rfl (lv_at hl 0 rfl) ?_
  refine lv_bipush (v := 100) hx hb dX5_init_74 (by decide) ?_
  refine kn_int hx hb (hts _ kw_ac_int) hK hP hD hS hA 100 (by decide) (by decide) (by decide) (Nat.le_of_ble_eq_true rfl) (Nat.le_of_ble_eq_true rfl) dX5_init_76 (fun q9 H hP hD hS => ?_)
  have hP : va_P (dC, dI) vwCl [(h0, .inr (5, [.int 0, .ref q1, .int 3, .ref q2, .ref q3, .ref q4, .ref q5, .ref q6, .ref q7, .ref q8, .null, .null, .null, .null, .null, .null, .int 0])), (q1, eI cA 100), (q2, eJ cA 100), (q3, eJ cA 100), (q4, eJ cA 100), (q5, eJ cA 11), (q6, eJ cA 11), (q7, eJ cA 11), (q8, eI cA 7), (q9, eI cA 100)] H := hP
  have hD : va_D A [(h0, .inr (5, [.int 0, .ref q1, .int 3, .ref q2, .ref q3, .ref q4, .ref q5, .ref q6, .ref q7, .ref q8, .null, .null, .null, .null, .null, .null, .int 0])), (q1, eI cA 100), (q2, eJ cA 100), (q3, eJ cA 100), (q4, eJ cA 100), (q5, eJ cA 11), (q6, eJ cA 11), (q7, eJ cA 11), (q8, eI cA 7), (q9, eI cA 100)] := hD
  refine W.widen (k := 9) (n := 540) (by decide) (by decide) ?_
  refine va_putF (D := (dC, dI)) (ci := 5) (v := .ref q9) (ty := .array .int) (C := RX5) (T := TX5) (N := 17) hx hb hts inW_X5 tyX5 tyX5_ok nmX5 hown hK hP hD hS 0 rfl rfl 10 (by decide) (hts _ kw_fl_X5_39) (fun _ h9 => h9) rfl hin rfl (by decide +kernel) rfl rfl (Nat.le_of_ble_eq_true rfl) dX5_init_78 (fun H locs hP hD hS => ?_)
  have hP : va_P (dC, dI) vwCl [(h0, .inr (5, [.int 0, .ref q1, .int 3, .ref q2, .ref q3, .ref q4, .ref q5, .ref q6, .ref q7, .ref q8, .ref q9, .null, .null, .null, .null, .null, .int 0])), (q1, eI cA 100), (q2, eJ cA 100), (q3, eJ cA 100), (q4, eJ cA 100), (q5, eJ cA 11), (q6, eJ cA 11), (q7, eJ cA 11), (q8, eI cA 7), (q9, eI cA 100)] H := hP
  have hD : va_D A [(h0, .inr (5, [.int 0, .ref q1, .int 3, .ref q2, .ref q3, .ref q4, .ref q5, .ref q6, .ref q7, .ref q8, .ref q9, .null, .null, .null, .null, .null, .int 0])), (q1, eI cA 100), (q2, eJ cA 100), (q3, eJ cA 100), (q4, eJ cA 100), (q5, eJ cA 11), (q6, eJ cA 11), (q7, eJ cA 11), (q8, eI cA 7), (q9, eI cA 100)] := hD
  refine lv_aload_n hx hb dX5_init_81 rfl (lv_at hl 0 rfl) ?_
  refine lv_iconst (v := 4) hx hb dX5_init_82 (by decide) ?_
  refine kn_bool hx hb (hts _ kw_ac_boolean) hK hP hD hS hA 4 (by decide) (by decide) (by decide) (Nat.le_of_ble_eq_true rfl) (Nat.le_of_ble_eq_true rfl) dX5_init_83 (fun q10 H hP hD hS => ?_)
  have hP : va_P (dC, dI) vwCl [(h0, .inr (5, [.int 0, .ref q1, .int 3, .ref q2, .ref q3, .ref q4, .ref q5, .ref q6, .ref q7, .ref q8, .ref q9, .null, .null, .null, .null, .null, .int 0])), (q1, eI cA 100), (q2, eJ cA 100), (q3, eJ cA 100), (q4, eJ cA 100), (q5, eJ cA 11), (q6, eJ cA 11), (q7, eJ cA 11), (q8, eI cA 7), (q9, eI cA 100), (q10, eZ cA 4)] H := hP
  have hD : va_D A [(h0, .inr (5, [.int 0, .ref q1, .int 3, .ref q2, .ref q3, .ref q4, .ref q5, .ref q6, .ref q7, .ref q8, .ref q9, .null, .null, .null, .null, .null, .int 0])), (q1, eI cA 100), (q2, eJ cA 100), (q3, eJ cA 100), (q4, eJ cA 100), (q5, eJ cA 11), (q6, eJ cA 11), (q7, eJ cA 11), (q8, eI cA 7), (q9, eI cA 100), (q10, eZ cA 4)] := hD
  refine W.widen (k := 10) (n := 544) (by decide) (by decide) ?_
  refine va_putF (D := (dC, dI)) (ci := 5) (v := .ref q10) (ty := .array .boolean) (C := RX5) (T := TX5) (N := 17) hx hb hts inW_X5 tyX5 tyX5_ok nmX5 hown hK hP hD hS 0 rfl rfl 11 (by decide) (hts _ kw_fl_X5_42) (fun _ h9 => h9) rfl hin rfl (by decide +kernel) rfl rfl (Nat.le_of_ble_eq_true rfl) dX5_init_85 (fun H locs hP hD hS => ?_)
  have hP : va_P (dC, dI) vwCl [(h0, .inr (5, [.int 0, .ref q1, .int 3, .ref q2, .ref q3, .ref q4, .ref q5, .ref q6, .ref q7, .ref q8, .ref q9, .ref q10, .null, .null, .null, .null, .int 0])), (q1, eI cA 100), (q2, eJ cA 100), (q3, eJ cA 100), (q4, eJ cA 100), (q5, eJ cA 11), (q6, eJ cA 11), (q7, eJ cA 11), (q8, eI cA 7), (q9, eI cA 100), (q10, eZ cA 4)] H := hP
  have hD : va_D A [(h0, .inr (5, [.int 0, .ref q1, .int 3, .ref q2, .ref q3, .ref q4, .ref q5, .ref q6, .ref q7, .ref q8, .ref q9, .ref q10, .null, .null, .null, .null, .int 0])), (q1, eI cA 100), (q2, eJ cA 100), (q3, eJ cA 100), (q4, eJ cA 100), (q5, eJ cA 11), (q6, eJ cA 11), (q7, eJ cA 11), (q8, eI cA 7), (q9, eI cA 100), (q10, eZ cA 4)] := hD
  refine lv_aload_n hx hb dX5_init_88 rfl (lv_at hl 0 rfl) ?_
  refine lv_iconst (v := 4) hx hb dX5_init_89 (by decide) ?_
  refine kn_int hx hb (hts _ kw_ac_int) hK hP hD hS hA 4 (by decide) (by decide) (by decide) (Nat.le_of_ble_eq_true rfl) (Nat.le_of_ble_eq_true rfl) dX5_init_90 (fun q11 H hP hD hS => ?_)
  have hP : va_P (dC, dI) vwCl [(h0, .inr (5, [.int 0, .ref q1, .int 3, .ref q2, .ref q3, .ref q4, .ref q5, .ref q6, .ref q7, .ref q8, .ref q9, .ref q10, .null, .null, .null, .null, .int 0])), (q1, eI cA 100), (q2, eJ cA 100), (q3, eJ cA 100), (q4, eJ cA 100), (q5, eJ cA 11), (q6, eJ cA 11), (q7, eJ cA 11), (q8, eI cA 7), (q9, eI cA 100), (q10, eZ cA 4), (q11, eI cA 4)] H := hP
  have hD : va_D A [(h0, .inr (5, [.int 0, .ref q1, .int 3, .ref q2, .ref q3, .ref q4, .ref q5, .ref q6, .ref q7, .ref q8, .ref q9, .ref q10, .null, .null, .null, .null, .int 0])), (q1, eI cA 100), (q2, eJ cA 100), (q3, eJ cA 100), (q4, eJ cA 100), (q5, eJ cA 11), (q6, eJ cA 11), (q7, eJ cA 11), (q8, eI cA 7), (q9, eI cA 100), (q10, eZ cA 4), (q11, eI cA 4)] := hD
  refine W.widen (k := 11) (n := 548) (by decide) (by decide) ?_
  refine va_putF (D := (dC, dI)) (ci := 5) (v := .ref q11) (ty := .array .int) (C := RX5) (T := TX5) (N := 17) hx hb hts inW_X5 tyX5 tyX5_ok nmX5 hown hK hP hD hS 0 rfl rfl 12 (by decide) (hts _ kw_fl_X5_46) (fun _ h9 => h9) rfl hin rfl (by decide +kernel) rfl rfl (Nat.le_of_ble_eq_true rfl) dX5_init_92 (fun H locs hP hD hS => ?_)
  have hP : va_P (dC, dI) vwCl [(h0, .inr (5, [.int 0, .ref q1, .int 3, .ref q2, .ref q3, .ref q4, .ref q5, .ref q6, .ref q7, .ref q8, .ref q9, .ref q10, .ref q11, .null, .null, .null, .int 0])), (q1, eI cA 100), (q2, eJ cA 100), (q3, eJ cA 100), (q4, eJ cA 100), (q5, eJ cA 11), (q6, eJ cA 11), (q7, eJ cA 11), (q8, eI cA 7), (q9, eI cA 100), (q10, eZ cA 4), (q11, eI cA 4)] H := hP
  have hD : va_D A [(h0, .inr (5, [.int 0, .ref q1, .int 3, .ref q2, .ref q3, .ref q4, .ref q5, .ref q6, .ref q7, .ref q8, .ref q9, .ref q10, .ref q11, .null, .null, .null, .int 0])), (q1, eI cA 100), (q2, eJ cA 100), (q3, eJ cA 100), (q4, eJ cA 100), (q5, eJ cA 11), (q6, eJ cA 11), (q7, eJ cA 11), (q8, eI cA 7), (q9, eI cA 100), (q10, eZ cA 4), (q11, eI cA 4)] := hD
  refine lv_aload_n hx hb dX5_init_95 rfl (lv_at hl 0 rfl) ?_
  refine lv_iconst (v := 4) hx hb dX5_init_96 (by decide) ?_
  refine kn_int hx hb (hts _ kw_ac_int) hK hP hD hS hA 4 (by decide) (by decide) (by decide) (Nat.le_of_ble_eq_true rfl) (Nat.le_of_ble_eq_true rfl) dX5_init_97 (fun q12 H hP hD hS => ?_)
  have hP : va_P (dC, dI) vwCl [(h0, .inr (5, [.int 0, .ref q1, .int 3, .ref q2, .ref q3, .ref q4, .ref q5, .ref q6, .ref q7, .ref q8, .ref q9, .ref q10, .ref q11, .null, .null, .null, .int 0])), (q1, eI cA 100), (q2, eJ cA 100), (q3, eJ cA 100), (q4, eJ cA 100), (q5, eJ cA 11), (q6, eJ cA 11), (q7, eJ cA 11), (q8, eI cA 7), (q9, eI cA 100), (q10, eZ cA 4), (q11, eI cA 4), (q12, eI cA 4)] H := hP
  have hD : va_D A [(h0, .inr (5, [.int 0, .ref q1, .int 3, .ref q2, .ref q3, .ref q4, .ref q5, .ref q6, .ref q7, .ref q8, .ref q9, .ref q10, .ref q11, .null, .null, .null, .int 0])), (q1, eI cA 100), (q2, eJ cA 100), (q3, eJ cA 100), (q4, eJ cA 100), (q5, eJ cA 11), (q6, eJ cA 11), (q7, eJ cA 11), (q8, eI cA 7), (q9, eI cA 100), (q10, eZ cA 4), (q11, eI cA 4), (q12, eI cA 4)] := hD
  refine W.widen (k := 12) (n := 552) (by decide) (by decide) ?_
  refine va_putF (D := (dC, dI)) (ci := 5) (v := .ref q12) (ty := .array .int) (C := RX5) (T := TX5) (N := 17) hx hb hts inW_X5 tyX5 tyX5_ok nmX5 hown hK hP hD hS 0 rfl rfl 13 (by decide) (hts _ kw_fl_X5_49) (fun _ h9 => h9) rfl hin rfl (by decide +kernel) rfl rfl (Nat.le_of_ble_eq_true rfl) dX5_init_99 (fun H locs hP hD hS => ?_)
  have hP : va_P (dC, dI) vwCl [(h0, .inr (5, [.int 0, .ref q1, .int 3, .ref q2, .ref q3, .ref q4, .ref q5, .ref q6, .ref q7, .ref q8, .ref q9, .ref q10, .ref q11, .ref q12, .null, .null, .int 0])), (q1, eI cA 100), (q2, eJ cA 100), (q3, eJ cA 100), (q4, eJ cA 100), (q5, eJ cA 11), (q6, eJ cA 11), (q7, eJ cA 11), (q8, eI cA 7), (q9, eI cA 100), (q10, eZ cA 4), (q11, eI cA 4), (q12, eI cA 4)] H := hP
  have hD : va_D A [(h0, .inr (5, [.int 0, .ref q1, .int 3, .ref q2, .ref q3, .ref q4, .ref q5, .ref q6, .ref q7, .ref q8, .ref q9, .ref q10, .ref q11, .ref q12, .null, .null, .int 0])), (q1, eI cA 100), (q2, eJ cA 100), (q3, eJ cA 100), (q4, eJ cA 100), (q5, eJ cA 11), (q6, eJ cA 11), (q7, eJ cA 11), (q8, eI cA 7), (q9, eI cA 100), (q10, eZ cA 4), (q11, eI cA 4), (q12, eI cA 4)] := hD
  refine lv_aload_n hx hb dX5_init_102 rfl (lv_at hl 0 rfl) ?_
  refine lv_sipush (v := 400) hx hb dX5_init_103 (by decide) ?_
  refine kn_int hx hb (hts _ kw_ac_int) hK hP hD hS hA 400 (by decide) (by decide) (by decide) (Nat.le_of_ble_eq_true rfl) (Nat.le_of_ble_eq_true rfl) dX5_init_106 (fun q13 H hP hD hS => ?_)
  have hP : va_P (dC, dI) vwCl [(h0, .inr (5, [.int 0, .ref q1, .int 3, .ref q2, .ref q3, .ref q4, .ref q5, .ref q6, .ref q7, .ref q8, .ref q9, .ref q10, .ref q11, .ref q12, .null, .null, .int 0])), (q1, eI cA 100), (q2, eJ cA 100), (q3, eJ cA 100), (q4, eJ cA 100), (q5, eJ cA 11), (q6, eJ cA 11), (q7, eJ cA 11), (q8, eI cA 7), (q9, eI cA 100), (q10, eZ cA 4), (q11, eI cA 4), (q12, eI cA 4), (q13, eI cA 400)] H := hP
  have hD : va_D A [(h0, .inr (5, [.int 0, .ref q1, .int 3, .ref q2, .ref q3, .ref q4, .ref q5, .ref q6, .ref q7, .ref q8, .ref q9, .ref q10, .ref q11, .ref q12, .null, .null, .int 0])), (q1, eI cA 100), (q2, eJ cA 100), (q3, eJ cA 100), (q4, eJ cA 100), (q5, eJ cA 11), (q6, eJ cA 11), (q7, eJ cA 11), (q8, eI cA 7), (q9, eI cA 100), (q10, eZ cA 4), (q11, eI cA 4), (q12, eI cA 4), (q13, eI cA 400)] := hD
  refine W.widen (k := 13) (n := 952) (by decide) (by decide) ?_
  refine va_putF (D := (dC, dI)) (ci := 5) (v := .ref q13) (ty := .array .int) (C := RX5) (T := TX5) (N := 17) hx hb hts inW_X5 tyX5 tyX5_ok nmX5 hown hK hP hD hS 0 rfl rfl 14 (by decide) (hts _ kw_fl_X5_52) (fun _ h9 => h9) rfl hin rfl (by decide +kernel) rfl rfl (Nat.le_of_ble_eq_true rfl) dX5_init_108 (fun H locs hP hD hS => ?_)
  have hP : va_P (dC, dI) vwCl [(h0, .inr (5, [.int 0, .ref q1, .int 3, .ref q2, .ref q3, .ref q4, .ref q5, .ref q6, .ref q7, .ref q8, .ref q9, .ref q10, .ref q11, .ref q12, .ref q13, .null, .int 0])), (q1, eI cA 100), (q2, eJ cA 100), (q3, eJ cA 100), (q4, eJ cA 100), (q5, eJ cA 11), (q6, eJ cA 11), (q7, eJ cA 11), (q8, eI cA 7), (q9, eI cA 100), (q10, eZ cA 4), (q11, eI cA 4), (q12, eI cA 4), (q13, eI cA 400)] H := hP
  have hD : va_D A [(h0, .inr (5, [.int 0, .ref q1, .int 3, .ref q2, .ref q3, .ref q4, .ref q5, .ref q6, .ref q7, .ref q8, .ref q9, .ref q10, .ref q11, .ref q12, .ref q13, .null, .int 0])), (q1, eI cA 100), (q2, eJ cA 100), (q3, eJ cA 100), (q4, eJ cA 100), (q5, eJ cA 11), (q6, eJ cA 11), (q7, eJ cA 11), (q8, eI cA 7), (q9, eI cA 100), (q10, eZ cA 4), (q11, eI cA 4), (q12, eI cA 4), (q13, eI cA 400)] := hD
  refine lv_aload_n hx hb dX5_init_111 rfl (lv_at hl 0 rfl) ?_
  refine lv_bipush (v := 100) hx hb dX5_init_112 (by decide) ?_
  refine kn_int hx hb (hts _ kw_ac_int) hK hP hD hS hA 100 (by decide) (by decide) (by decide) (Nat.le_of_ble_eq_true rfl) (Nat.le_of_ble_eq_true rfl) dX5_init_114 (fun q14 H hP hD hS => ?_)
  have hP : va_P (dC, dI) vwCl [(h0, .inr (5, [.int 0, .ref q1, .int 3, .ref q2, .ref q3, .ref q4, .ref q5, .ref q6, .ref q7, .ref q8, .ref q9, .ref q10, .ref q11, .ref q12, .ref q13, .null, .int 0])), (q1, eI cA 100), (q2, eJ cA 100), (q3, eJ cA 100), (q4, eJ cA 100), (q5, eJ cA 11), (q6, eJ cA 11), (q7, eJ cA 11), (q8, eI cA 7), (q9, eI cA 100), (q10, eZ cA 4), (q11, eI cA 4), (q12, eI cA 4), (q13, eI cA 400), (q14, eI cA 100)] H := hP
  have hD : va_D A [(h0, .inr (5, [.int 0, .ref q1, .int 3, .ref q2, .ref q3, .ref q4, .ref q5, .ref q6, .ref q7, .ref q8, .ref q9, .ref q10, .ref q11, .ref q12, .ref q13, .null, .int 0])), (q1, eI cA 100), (q2, eJ cA 100), (q3, eJ cA 100), (q4, eJ cA 100), (q5, eJ cA 11), (q6, eJ cA 11), (q7, eJ cA 11), (q8, eI cA 7), (q9, eI cA 100), (q10, eZ cA 4), (q11, eI cA 4), (q12, eI cA 4), (q13, eI cA 400), (q14, eI cA 100)] := hD
  refine W.widen (k := 14) (n := 1052) (by decide) (by decide) ?_
  refine va_putF (D := (dC, dI)) (ci := 5) (v := .ref q14) (ty := .array .int) (C := RX5) (T := TX5) (N := 17) hx hb hts inW_X5 tyX5 tyX5_ok nmX5 hown hK hP hD hS 0 rfl rfl 15 (by decide) (hts _ kw_fl_X5_55) (fun _ h9 => h9) rfl hin rfl (by decide +kernel) rfl rfl (Nat.le_of_ble_eq_true rfl) dX5_init_116 (fun H locs hP hD hS => ?_)
  have hP : va_P (dC, dI) vwCl [(h0, .inr (5, [.int 0, .ref q1, .int 3, .ref q2, .ref q3, .ref q4, .ref q5, .ref q6, .ref q7, .ref q8, .ref q9, .ref q10, .ref q11, .ref q12, .ref q13, .ref q14, .int 0])), (q1, eI cA 100), (q2, eJ cA 100), (q3, eJ cA 100), (q4, eJ cA 100), (q5, eJ cA 11), (q6, eJ cA 11), (q7, eJ cA 11), (q8, eI cA 7), (q9, eI cA 100), (q10, eZ cA 4), (q11, eI cA 4), (q12, eI cA 4), (q13, eI cA 400), (q14, eI cA 100)] H := hP
  have hD : va_D A [(h0, .inr (5, [.int 0, .ref q1, .int 3, .ref q2, .ref q3, .ref q4, .ref q5, .ref q6, .ref q7, .ref q8, .ref q9, .ref q10, .ref q11, .ref q12, .ref q13, .ref q14, .int 0])), (q1, eI cA 100), (q2, eJ cA 100), (q3, eJ cA 100), (q4, eJ cA 100), (q5, eJ cA 11), (q6, eJ cA 11), (q7, eJ cA 11), (q8, eI cA 7), (q9, eI cA 100), (q10, eZ cA 4), (q11, eI cA 4), (q12, eI cA 4), (q13, eI cA 400), (q14, eI cA 100)] := hD
  have hP9 : va_P (dC, dI) vwCl (wc5 cA h0 (fun k => ([h0, q1, q2, q3, q4, q5, q6, q7, q8, q9, q10, q11, q12, q13, q14] : List Nat).getD (k - 32) 0)) H := hP.sub [0, 1, 2, 3, 4, 5, 6, 7, 8, 9, 10, 11, 12, 13, 14] rfl
  have hD9 : va_D A (wc5 cA h0 (fun k => ([h0, q1, q2, q3, q4, q5, q6, q7, q8, q9, q10, q11, q12, q13, q14] : List Nat).getD (k - 32) 0)) := hD.sub [0, 1, 2, 3, 4, 5, 6, 7, 8, 9, 10, 11, 12, 13, 14] (by decide) rfl
  exact W.vret hx hb hr (fun t ht hW => ⟨⟨(fun k => ([h0, q1, q2, q3, q4, q5, q6, q7, q8, q9, q10, q11, q12, q13, q14] : List Nat).getD (k - 32) 0), rfl, trivial, by rw [ht]; exact hP9, hD9⟩, hS.F ht⟩) hS.2.2 dX5_init_119
