set_option maxHeartbeats 4000000 in
set_option maxRecDepth 100000 in
theorem c_X2_init (l : Launch) (dC : Nat → ClassId) (dI : Nat → Nat → Nat) (cA : Nat → ClassId) (h0 sz : Nat) : Met l yX2_init (wsM M_X2_init) ({ frames := 1, cells := 14, slots := 1134, locals := 12 }) (va_Pc [.ref h0] (PI dC dI cA sz [(h0, .inr (2, [.null, .null, .null, .int 0, .int 0]))])) (QI (S := Nat × Nat × Nat) dC dI (wc2 cA h0) (va_A [(h0, .inr (2, [.null, .null, .null, .int 0, .int 0]))] sz)) 14 1134 (va_A [(h0, .inr (2, [.null, .null, .null, .int 0, .int 0]))] sz) := by
  refine Met.ofW (cc := cX2_init) (maxL := 1) (ret := none) (by decide) rfl ?_
  intro p e s m args below meth c s₁ B hml hv
  obtain ⟨rfl, hsz, hP, hK, hO, hD0⟩ := hv
  have hx := B.exec
  have hb := B.bytes
  have hr := B.returns
  have hts0 := atoms_spec (ws := wsM M_X2_init) B.pre
  have hts : ∀ w ∈ lw_g, w.before #[Value.ref h0] s = true := fun w hw => hts0 w (List.mem_cons_of_mem _ hw)
  have hown : s.vm.findClass RX2 = some m.cls := findClass_of_methodNamed B.named
  have hlocks := B.notSynchronized
  have hin : meth.name = "<init>" := (name_of_methodNamed B.named B.method).1
  subst hsz
  have hD := hD0.self (sz := s.heap.size)
  generalize hAe : va_A [(h0, .inr (2, [.null, .null, .null, .int 0, .int 0]))] s.heap.size = A at hD ⊢
  have hA : ∀ q : Nat, s.heap.size ≤ q → A q := fun q h => by rw [← hAe]; exact Or.inr h
  have hS : va_S A s.heap s.heap [] := va_S.rf
  have hP : va_P (dC, dI) vwCl [(h0, .inr (2, [.null, .null, .null, .int 0, .int 0]))] s.heap := hP
  have hl := lv_entry ([.ref h0]) (n := 1) (Nat.le_of_ble_eq_true rfl)
  rw [lg_entry_eq]
  generalize (lg_sl ([.ref h0]) ++ List.replicate (1 - (lg_sl ([.ref h0])).length) Slot.unset).toArray = ls at hl ⊢
  have hl : lv_has ls 1 [(0, .ref h0)] := hl
  refine lv_aload_n hx hb dX2_init_0 rfl (lv_at hl 0 rfl) ?_
  refine W.objInit hx hb hown (hts _ kw_ml_X2_3) (hts _ kw_im_O) (hts _ kw_oi) rfl (by rw [hml]; exact hl.1) rfl dX2_init_1 (Nat.le_of_ble_eq_true rfl) (Nat.le_of_ble_eq_true rfl) ?_
  refine W.eq (g2 := F0 m 4 ls []) rfl ?_
  refine lv_aload_n hx hb dX2_init_4 rfl (lv_at hl 0 rfl) ?_
  refine lv_bipush (v := 12) hx hb dX2_init_5 (by decide) ?_
  refine kn_long hx hb (hts _ kw_ac_long) hK hP hD hS hA 12 (by decide) (by decide) (by decide) (Nat.le_of_ble_eq_true rfl) (Nat.le_of_ble_eq_true rfl) dX2_init_7 (fun q1 H hP hD hS => ?_)
  have hP : va_P (dC, dI) vwCl [(h0, .inr (2, [.null, .null, .null, .int 0, .int 0])), (q1, eJ cA 12)] H := hP
  have hD : va_D A [(h0, .inr (2, [.null, .null, .null, .int 0, .int 0])), (q1, eJ cA 12)] := hD
  refine W.widen (k := 1) (n := 12) (by decide) (by decide) ?_
  refine va_putF (D := (dC, dI)) (ci := 2) (v := .ref q1) (ty := .array .long) (C := RX2) (T := TX2) (N := 5) hx hb hts inW_X2 tyX2 tyX2_ok nmX2 hown hK hP hD hS 0 rfl rfl 0 (by decide) (hts _ kw_fl_X2_9) (fun _ h9 => h9) rfl hin rfl (by decide +kernel) rfl rfl (Nat.le_of_ble_eq_true rfl) dX2_init_9 (fun H locs hP hD hS => ?_)
  have hP : va_P (dC, dI) vwCl [(h0, .inr (2, [.ref q1, .null, .null, .int 0, .int 0])), (q1, eJ cA 12)] H := hP
  have hD : va_D A [(h0, .inr (2, [.ref q1, .null, .null, .int 0, .int 0])), (q1, eJ cA 12)] := hD
  refine lv_aload_n hx hb dX2_init_12 rfl (lv_at hl 0 rfl) ?_
  refine lv_bipush (v := 11) hx hb dX2_init_13 (by decide) ?_
  refine lv_bipush (v := 100) hx hb dX2_init_15 (by decide) ?_
  refine kn_grid hx hb hown (hts _ kw_cl_X2_15) hO (hts _ kw_ac_long) hK hP hD hS hA (Nat.le_of_ble_eq_true rfl) (Nat.le_of_ble_eq_true rfl) dX2_init_17 (fun q2 H hP hD hS => ?_)
  have hP : va_P (dC, dI) vwCl [(h0, .inr (2, [.ref q1, .null, .null, .int 0, .int 0])), (q1, eJ cA 12), (q2, eG cA q2), (q2 + 1 + 0, eJ cA 100), (q2 + 1 + 1, eJ cA 100), (q2 + 1 + 2, eJ cA 100), (q2 + 1 + 3, eJ cA 100), (q2 + 1 + 4, eJ cA 100), (q2 + 1 + 5, eJ cA 100), (q2 + 1 + 6, eJ cA 100), (q2 + 1 + 7, eJ cA 100), (q2 + 1 + 8, eJ cA 100), (q2 + 1 + 9, eJ cA 100), (q2 + 1 + 10, eJ cA 100)] H := hP
  have hD : va_D A [(h0, .inr (2, [.ref q1, .null, .null, .int 0, .int 0])), (q1, eJ cA 12), (q2, eG cA q2), (q2 + 1 + 0, eJ cA 100), (q2 + 1 + 1, eJ cA 100), (q2 + 1 + 2, eJ cA 100), (q2 + 1 + 3, eJ cA 100), (q2 + 1 + 4, eJ cA 100), (q2 + 1 + 5, eJ cA 100), (q2 + 1 + 6, eJ cA 100), (q2 + 1 + 7, eJ cA 100), (q2 + 1 + 8, eJ cA 100), (q2 + 1 + 9, eJ cA 100), (q2 + 1 + 10, eJ cA 100)] := hD
  refine W.widen (k := 13) (n := 1123) (by decide) (by decide) ?_
  refine va_putF (D := (dC, dI)) (ci := 2) (v := .ref q2) (ty := .array (.array .long)) (C := RX2) (T := TX2) (N := 5) hx hb hts inW_X2 tyX2 tyX2_ok nmX2 hown hK hP hD hS 0 rfl rfl 1 (by decide) (hts _ kw_fl_X2_17) (fun _ h9 => h9) rfl hin rfl (by decide +kernel) rfl rfl (Nat.le_of_ble_eq_true rfl) dX2_init_21 (fun H locs hP hD hS => ?_)
  have hP : va_P (dC, dI) vwCl [(h0, .inr (2, [.ref q1, .ref q2, .null, .int 0, .int 0])), (q1, eJ cA 12), (q2, eG cA q2), (q2 + 1 + 0, eJ cA 100), (q2 + 1 + 1, eJ cA 100), (q2 + 1 + 2, eJ cA 100), (q2 + 1 + 3, eJ cA 100), (q2 + 1 + 4, eJ cA 100), (q2 + 1 + 5, eJ cA 100), (q2 + 1 + 6, eJ cA 100), (q2 + 1 + 7, eJ cA 100), (q2 + 1 + 8, eJ cA 100), (q2 + 1 + 9, eJ cA 100), (q2 + 1 + 10, eJ cA 100)] H := hP
  have hD : va_D A [(h0, .inr (2, [.ref q1, .ref q2, .null, .int 0, .int 0])), (q1, eJ cA 12), (q2, eG cA q2), (q2 + 1 + 0, eJ cA 100), (q2 + 1 + 1, eJ cA 100), (q2 + 1 + 2, eJ cA 100), (q2 + 1 + 3, eJ cA 100), (q2 + 1 + 4, eJ cA 100), (q2 + 1 + 5, eJ cA 100), (q2 + 1 + 6, eJ cA 100), (q2 + 1 + 7, eJ cA 100), (q2 + 1 + 8, eJ cA 100), (q2 + 1 + 9, eJ cA 100), (q2 + 1 + 10, eJ cA 100)] := hD
  refine lv_aload_n hx hb dX2_init_24 rfl (lv_at hl 0 rfl) ?_
  refine lv_bipush (v := 11) hx hb dX2_init_25 (by decide) ?_
  refine kn_long hx hb (hts _ kw_ac_long) hK hP hD hS hA 11 (by decide) (by decide) (by decide) (Nat.le_of_ble_eq_true rfl) (Nat.le_of_ble_eq_true rfl) dX2_init_27 (fun q3 H hP hD hS => ?_)
  have hP : va_P (dC, dI) vwCl [(h0, .inr (2, [.ref q1, .ref q2, .null, .int 0, .int 0])), (q1, eJ cA 12), (q2, eG cA q2), (q2 + 1 + 0, eJ cA 100), (q2 + 1 + 1, eJ cA 100), (q2 + 1 + 2, eJ cA 100), (q2 + 1 + 3, eJ cA 100), (q2 + 1 + 4, eJ cA 100), (q2 + 1 + 5, eJ cA 100), (q2 + 1 + 6, eJ cA 100), (q2 + 1 + 7, eJ cA 100), (q2 + 1 + 8, eJ cA 100), (q2 + 1 + 9, eJ cA 100), (q2 + 1 + 10, eJ cA 100), (q3, eJ cA 11)] H := hP
  have hD : va_D A [(h0, .inr (2, [.ref q1, .ref q2, .null, .int 0, .int 0])), (q1, eJ cA 12), (q2, eG cA q2), (q2 + 1 + 0, eJ cA 100), (q2 + 1 + 1, eJ cA 100), (q2 + 1 + 2, eJ cA 100), (q2 + 1 + 3, eJ cA 100), (q2 + 1 + 4, eJ cA 100), (q2 + 1 + 5, eJ cA 100), (q2 + 1 + 6, eJ cA 100), (q2 + 1 + 7, eJ cA 100), (q2 + 1 + 8, eJ cA 100), (q2 + 1 + 9, eJ cA 100), (q2 + 1 + 10, eJ cA 100), (q3, eJ cA 11)] := hD
  refine W.widen (k := 14) (n := 1134) (by decide) (by decide) ?_
  refine va_putF (D := (dC, dI)) (ci := 2) (v := .ref q3) (ty := .array .long) (C := RX2) (T := TX2) (N := 5) hx hb hts inW_X2 tyX2 tyX2_ok nmX2 hown hK hP hD hS 0 rfl rfl 2 (by decide) (hts _ kw_fl_X2_20) (fun _ h9 => h9) rfl hin rfl (by decide +kernel) rfl rfl (Nat.le_of_ble_eq_true rfl) dX2_init_29 (fun H locs hP hD hS => ?_)
  have hP : va_P (dC, dI) vwCl [(h0, .inr (2, [.ref q1, .ref q2, .ref q3, .int 0, .int 0])), (q1, eJ cA 12), (q2, eG cA q2), (q2 + 1 + 0, eJ cA 100), (q2 + 1 + 1, eJ cA 100), (q2 + 1 + 2, eJ cA 100), (q2 + 1 + 3, eJ cA 100), (q2 + 1 + 4, eJ cA 100), (q2 + 1 + 5, eJ cA 100), (q2 + 1 + 6, eJ cA 100), (q2 + 1 + 7, eJ cA 100), (q2 + 1 + 8, eJ cA 100), (q2 + 1 + 9, eJ cA 100), (q2 + 1 + 10, eJ cA 100), (q3, eJ cA 11)] H := hP
  have hD : va_D A [(h0, .inr (2, [.ref q1, .ref q2, .ref q3, .int 0, .int 0])), (q1, eJ cA 12), (q2, eG cA q2), (q2 + 1 + 0, eJ cA 100), (q2 + 1 + 1, eJ cA 100), (q2 + 1 + 2, eJ cA 100), (q2 + 1 + 3, eJ cA 100), (q2 + 1 + 4, eJ cA 100), (q2 + 1 + 5, eJ cA 100), (q2 + 1 + 6, eJ cA 100), (q2 + 1 + 7, eJ cA 100), (q2 + 1 + 8, eJ cA 100), (q2 + 1 + 9, eJ cA 100), (q2 + 1 + 10, eJ cA 100), (q3, eJ cA 11)] := hD
  refine lv_aload_n hx hb dX2_init_32 rfl (lv_at hl 0 rfl) ?_
  refine lv_iconst (v := 0) hx hb dX2_init_33 (by decide) ?_
  refine va_put (D := (dC, dI)) (ci := 2) (v := .int 0) (ty := .int) (C := RX2) (T := TX2) (N := 5) hx hb hts inW_X2 tyX2 tyX2_ok nmX2 hown hK hP hD hS 0 rfl rfl 3 (by decide) (hts _ kw_fl_X2_23) (fun _ h9 => h9) rfl (by decide +kernel) rfl rfl (Nat.le_of_ble_eq_true rfl) dX2_init_34 (fun H locs hP hD hS => ?_)
  have hP : va_P (dC, dI) vwCl [(h0, .inr (2, [.ref q1, .ref q2, .ref q3, .int 0, .int 0])), (q1, eJ cA 12), (q2, eG cA q2), (q2 + 1 + 0, eJ cA 100), (q2 + 1 + 1, eJ cA 100), (q2 + 1 + 2, eJ cA 100), (q2 + 1 + 3, eJ cA 100), (q2 + 1 + 4, eJ cA 100), (q2 + 1 + 5, eJ cA 100), (q2 + 1 + 6, eJ cA 100), (q2 + 1 + 7, eJ cA 100), (q2 + 1 + 8, eJ cA 100), (q2 + 1 + 9, eJ cA 100), (q2 + 1 + 10, eJ cA 100), (q3, eJ cA 11)] H := hP
  have hD : va_D A [(h0, .inr (2, [.ref q1, .ref q2, .ref q3, .int 0, .int 0])), (q1, eJ cA 12), (q2, eG cA q2), (q2 + 1 + 0, eJ cA 100), (q2 + 1 + 1, eJ cA 100), (q2 + 1 + 2, eJ cA 100), (q2 + 1 + 3, eJ cA 100), (q2 + 1 + 4, eJ cA 100), (q2 + 1 + 5, eJ cA 100), (q2 + 1 + 6, eJ cA 100), (q2 + 1 + 7, eJ cA 100), (q2 + 1 + 8, eJ cA 100), (q2 + 1 + 9, eJ cA 100), (q2 + 1 + 10, eJ cA 100), (q3, eJ cA 11)] := hD
  refine lv_aload_n hx hb dX2_init_37 rfl (lv_at hl 0 rfl) ?_
  refine lv_iconst (v := 0) hx hb dX2_init_38 (by decide) ?_
  refine va_put (D := (dC, dI)) (ci := 2) (v := .int 0) (ty := .int) (C := RX2) (T := TX2) (N := 5) hx hb hts inW_X2 tyX2 tyX2_ok nmX2 hown hK hP hD hS 0 rfl rfl 4 (by decide) (hts _ kw_fl_X2_27) (fun _ h9 => h9) rfl (by decide +kernel) rfl rfl (Nat.le_of_ble_eq_true rfl) dX2_init_39 (fun H locs hP hD hS => ?_)
  have hP : va_P (dC, dI) vwCl [(h0, .inr (2, [.ref q1, .ref q2, .ref q3, .int 0, .int 0])), (q1, eJ cA 12), (q2, eG cA q2), (q2 + 1 + 0, eJ cA 100), (q2 + 1 + 1, eJ cA 100), (q2 + 1 + 2, eJ cA 100), (q2 + 1 + 3, eJ cA 100), (q2 + 1 + 4, eJ cA 100), (q2 + 1 + 5, eJ cA 100), (q2 + 1 + 6, eJ cA 100), (q2 + 1 + 7, eJ cA 100), (q2 + 1 + 8, eJ cA 100), (q2 + 1 + 9, eJ cA 100), (q2 + 1 + 10, eJ cA 100), (q3, eJ cA 11)] H := hP
  have hD : va_D A [(h0, .inr (2, [.ref q1, .ref q2, .ref q3, .int 0, .int 0])), (q1, eJ cA 12), (q2, eG cA q2), (q2 + 1 + 0, eJ cA 100), (q2 + 1 + 1, eJ cA 100), (q2 + 1 + 2, eJ cA 100), (q2 + 1 + 3, eJ cA 100), (q2 + 1 + 4, eJ cA 100), (q2 + 1 + 5, eJ cA 100), (q2 + 1 + 6, eJ cA 100), (q2 + 1 + 7, eJ cA 100), (q2 + 1 + 8, eJ cA 100), (q2 + 1 + 9, eJ cA 100), (q2 + 1 + 10, eJ cA 100), (q3, eJ cA 11)] := hD
  have hP9 : va_P (dC, dI) vwCl (wc2 cA h0 (q1, q2, q3)) H := hP.sub [0, 1, 2, 14, 3, 4, 5, 6, 7, 8, 9, 10, 11, 12, 13] rfl
  have hD9 : va_D A (wc2 cA h0 (q1, q2, q3)) := hD.sub [0, 1, 2, 14, 3, 4, 5, 6, 7, 8, 9, 10, 11, 12, 13] (by decide) rfl
  exact W.vret hx hb hr (fun t ht hW => ⟨⟨(q1, q2, q3), rfl, trivial, by rw [ht]; exact hP9, hD9⟩, hS.F ht⟩) hS.2.2 dX2_init_42
