/-! rows for the constructors: one more cell in the world, the array classes known beforehand -/
def zI : Nat → Int32 := fun _ => 0
def zJ : Nat → Int64 := fun _ => 0
theorem kn_arr {args : Array Value} {s : State} {ty : FieldType} (h : (Cond.arrayClass ty).before args s = true) : ∃ cA : ClassId, ArrOfT s cA ty ∧ s.vm.findClass ("[" ++ ty.toString) = some cA := by
  obtain ⟨c, k, comp, h1, h2, h3⟩ := Cond.arrayClass_spec h
  exact ⟨c, fun N z => ⟨(fun k h => by cases h), k, h2, comp, h3⟩, h1⟩
/-- the words of arrays of references, and of the constructors of nest mates -/
def Ov (U : State) : Prop := (Cond.arrayOver (.object "EvenLines$Sheet")).before #[] U = true ∧ (Cond.arrayOver (.array .long)).before #[] U = true ∧ va_Nw (.methodLinkNest RX4 9 yX3_init "EvenLines") U ∧ va_Nw (.methodLinkNest RX4 21 yX2_init "EvenLines") U ∧ va_Nw (.methodLinkNest RX4 28 yX0_init "EvenLines") U ∧ va_Nw (.methodLinkNest RX4 46 yX1_init "EvenLines") U
theorem Ov.moved {u U : State} (hW : u.WarmedH U.vm) (h : Ov u) : Ov U := by
  have e : ∀ ty, (Cond.arrayOver ty).before #[] U = (Cond.arrayOver ty).before #[] u := fun ty => (Cond.arrayOver_setVmC (args := #[]) (s := u) hW.alike ty)
  obtain ⟨h1, h2, h3, h4, h5, h6⟩ := h
  exact ⟨(e _).trans h1, (e _).trans h2, h3.warmM hW, h4.warmM hW, h5.warmM hW, h6.warmM hW⟩
theorem Ov.same {u U : State} (hv : u.vm = U.vm) (h : Ov u) : Ov U := by
  have e : ∀ ty, (Cond.arrayOver ty).before #[] U = (Cond.arrayOver ty).before #[] u := fun ty => (Cond.arrayOver_setVmC (args := #[]) (s := u) (by rw [hv]; exact Vm.Alike.refl U.vm) ty)
  obtain ⟨h1, h2, h3, h4, h5, h6⟩ := h
  exact ⟨(e _).trans h1, (e _).trans h2, va_Nw.same rfl hv h3, va_Nw.same rfl hv h4, va_Nw.same rfl hv h5, va_Nw.same rfl hv h6⟩
theorem kn_tys {args : Array Value} {s : State} (hI : (Cond.arrayClass .int).before args s = true) (hJ : (Cond.arrayClass .long).before args s = true) (hZ : (Cond.arrayClass .boolean).before args s = true) (hO : Ov s) :
    ∃ cA : Nat → ClassId, ∀ (k : Nat) (q : ClassId × FieldType), (tysOf cA)[k]? = some q → ArrOfT s q.1 q.2 ∧ va_RA s q.1 q.2 := by
  obtain ⟨cI, a1, b1⟩ := kn_arr hI
  obtain ⟨cJ, a2, b2⟩ := kn_arr hJ
  obtain ⟨cZ, a3, b3⟩ := kn_arr hZ
  obtain ⟨comp, cS, kS, e1, -, e3, e4, e5⟩ := Cond.arrayOver_spec hO.1
  obtain ⟨cL, cy, kL, f5, f1, f3, f4⟩ := gd_over hO.2.1
  refine ⟨fun k => match k with | 0 => cI | 1 => cJ | 2 => cZ | 3 => cS | _ => cL, fun k q hk => ?_⟩
  match k, hk with
  | 0, hk => cases hk; exact ⟨a1, b1⟩
  | 1, hk => cases hk; exact ⟨a2, b2⟩
  | 2, hk => cases hk; exact ⟨a3, b3⟩
  | 3, hk => cases hk; exact ⟨fun N z => ⟨(fun k h => by cases h), kS, e3, comp, e4⟩, kS, comp, e3, e4, e1, e5⟩
  | 4, hk => cases hk; exact ⟨fun N z => ⟨(fun k h => by cases h), kL, f3, cy, f4⟩, f5⟩
  | k + 5, hk => simp [tysOf] at hk
/-- the twelve cells of new long[11][100] at q -/
def mg_w (cA cy : ClassId) (q : Nat) : va_W := (q, .inl (cA, 11, .inr (.inr (.inr (.inr (fun i => if i < 11 then some (q + 1 + i) else none)))))) :: (List.range 11).map (fun i => (q + 1 + i, .inl (cy, 100, .inr (.inl zJ))))
theorem mg_w_at {cA cy : ClassId} {q k : Nat} {x : Nat × va_E} (h : (mg_w cA cy q)[k]? = some x) : x.1 = q + k ∧ ((k = 0 ∧ x.2 = .inl (cA, 11, .inr (.inr (.inr (.inr (fun i => if i < 11 then some (q + 1 + i) else none)))))) ∨ (0 < k ∧ k < 12 ∧ x.2 = .inl (cy, 100, .inr (.inl zJ)))) := by
  cases k with
  | zero =>
    unfold mg_w at h
    simp at h
    cases h
    exact ⟨rfl, Or.inl ⟨rfl, rfl⟩⟩
  | succ k =>
    unfold mg_w at h
    rw [List.getElem?_cons_succ, List.getElem?_map] at h
    by_cases hk : k < 11
    · rw [List.getElem?_range hk] at h
      cases h
      exact ⟨by show q + 1 + k = q + (k + 1); omega, Or.inr ⟨by omega, by omega, rfl⟩⟩
    · have : (List.range 11)[k]? = none := List.getElem?_eq_none (by rw [List.length_range]; omega)
      rw [this] at h
      cases h
section KN
variable {p : Program} {l : Launch} {e : Env} {R : Room} {s : State} {m : MethodId} {args : Array Value} {below : List Frame} {meth : Method} {c : Code} {H : Heap} {locs : List Loc} {cells slots : Nat} {Q : State → Prop}
variable {cc : ByteArray} {pc : Nat} {ls : Array Slot} {rest : List Value} {D : va_G} {A : Nat → Prop} {ws : va_W} {H0 : Heap} {cA : Nat → ClassId}
theorem kn_int (hx : p.tables.exec = Jvm.exec) (hb : c.code = cc) (harr : (Cond.arrayClass .int).before args s = true) (hK : va_K D vwCl (tysOf cA) s) (hP : va_P D vwCl ws H) (hD : va_D A ws) (hS : va_S A H0 H locs) (hA : ∀ q, H0.size ≤ q → A q)
    {n : Int32} (N : Nat) (hn : ¬ n < 0) (hN : n.toNatClampNeg = N) (h9 : N ≤ 1000) (hcells : cells + 1 ≤ R.cells) (hslots : slots + N ≤ R.slots) (hdg : decode cc pc = .ok (.newarray .int, 2))
    (kk : ∀ (q : Nat) (H1 : Heap), va_P D vwCl (ws ++ [(q, .inl (cA 0, N, .inl zI))]) H1 → va_D A (ws ++ [(q, .inl (cA 0, N, .inl zI))]) → va_S A H0 H1 locs → W p l e R s m args below meth c H1 locs (cells + 1) (slots + N) Q (F0 m (pc + 2) ls (.ref q :: rest))) : W p l e R s m args below meth c H locs cells slots Q (F0 m pc ls (.int n :: rest)) := by
  refine va_newa (atype := .int) (ty := .int) (a0 := (N, .inl zI)) hx hb harr rfl hK hP hD hS hA (fun _ => rfl) hn hN (by show N * 4 ≤ _; omega) hcells hslots hdg (fun q cB H1 hK1 hP hD hS => ?_)
  have e : cB = cA 0 := Option.some.inj ((va_nm_int (hK1.2 5 (cB, .int) rfl).2).symm.trans (va_nm_int (hK.2 0 (cA 0, .int) rfl).2))
  subst e
  exact kk q H1 hP hD hS
theorem kn_bool (hx : p.tables.exec = Jvm.exec) (hb : c.code = cc) (harr : (Cond.arrayClass .boolean).before args s = true) (hK : va_K D vwCl (tysOf cA) s) (hP : va_P D vwCl ws H) (hD : va_D A ws) (hS : va_S A H0 H locs) (hA : ∀ q, H0.size ≤ q → A q)
    {n : Int32} (N : Nat) (hn : ¬ n < 0) (hN : n.toNatClampNeg = N) (h9 : N ≤ 1000) (hcells : cells + 1 ≤ R.cells) (hslots : slots + N ≤ R.slots) (hdg : decode cc pc = .ok (.newarray .boolean, 2))
    (kk : ∀ (q : Nat) (H1 : Heap), va_P D vwCl (ws ++ [(q, .inl (cA 2, N, .inl zI))]) H1 → va_D A (ws ++ [(q, .inl (cA 2, N, .inl zI))]) → va_S A H0 H1 locs → W p l e R s m args below meth c H1 locs (cells + 1) (slots + N) Q (F0 m (pc + 2) ls (.ref q :: rest))) : W p l e R s m args below meth c H locs cells slots Q (F0 m pc ls (.int n :: rest)) := by
  refine va_newa (atype := .boolean) (ty := .boolean) (a0 := (N, .inl zI)) hx hb harr rfl hK hP hD hS hA (fun _ => rfl) hn hN (by show N * 1 ≤ _; omega) hcells hslots hdg (fun q cB H1 hK1 hP hD hS => ?_)
  have e : cB = cA 2 := Option.some.inj ((va_nm_boolean (hK1.2 5 (cB, .boolean) rfl).2).symm.trans (va_nm_boolean (hK.2 2 (cA 2, .boolean) rfl).2))
  subst e
  exact kk q H1 hP hD hS
theorem kn_long (hx : p.tables.exec = Jvm.exec) (hb : c.code = cc) (harr : (Cond.arrayClass .long).before args s = true) (hK : va_K D vwCl (tysOf cA) s) (hP : va_P D vwCl ws H) (hD : va_D A ws) (hS : va_S A H0 H locs) (hA : ∀ q, H0.size ≤ q → A q)
    {n : Int32} (N : Nat) (hn : ¬ n < 0) (hN : n.toNatClampNeg = N) (h9 : N ≤ 1000) (hcells : cells + 1 ≤ R.cells) (hslots : slots + N ≤ R.slots) (hdg : decode cc pc = .ok (.newarray .long, 2))
    (kk : ∀ (q : Nat) (H1 : Heap), va_P D vwCl (ws ++ [(q, .inl (cA 1, N, .inr (.inl zJ)))]) H1 → va_D A (ws ++ [(q, .inl (cA 1, N, .inr (.inl zJ)))]) → va_S A H0 H1 locs → W p l e R s m args below meth c H1 locs (cells + 1) (slots + N) Q (F0 m (pc + 2) ls (.ref q :: rest))) : W p l e R s m args below meth c H locs cells slots Q (F0 m pc ls (.int n :: rest)) := by
  refine va_newa (atype := .long) (ty := .long) (a0 := (N, .inr (.inl zJ))) hx hb harr rfl hK hP hD hS hA (fun _ => rfl) hn hN (by show N * 8 ≤ _; omega) hcells hslots hdg (fun q cB H1 hK1 hP hD hS => ?_)
  have e : cB = cA 1 := Option.some.inj ((va_nm_long (hK1.2 5 (cB, .long) rfl).2).symm.trans (va_nm_long (hK.2 1 (cA 1, .long) rfl).2))
  subst e
  exact kk q H1 hP hD hS
theorem kn_sheets (hx : p.tables.exec = Jvm.exec) (hb : c.code = cc) {own : String} {index : Nat} (hown : s.vm.findClass own = some m.cls) (hclink : (Cond.classLink own index "EvenLines$Sheet").before args s = true) (hO : Ov s) (hK : va_K D vwCl (tysOf cA) s) (hP : va_P D vwCl ws H) (hD : va_D A ws) (hS : va_S A H0 H locs) (hA : ∀ q, H0.size ≤ q → A q)
    {n : Int32} (N : Nat) (hn : ¬ n < 0) (hN : n.toNatClampNeg = N) (h9 : N ≤ 1000) (hcells : cells + 1 ≤ R.cells) (hslots : slots + N ≤ R.slots) (hdg : decode cc pc = .ok (.anewarray index, 3))
    (kk : ∀ (q : Nat) (H1 : Heap), va_P D vwCl (ws ++ [(q, .inl (cA 3, N, .inr (.inr (.inr (.inr (fun _ => none))))))]) H1 → va_D A (ws ++ [(q, .inl (cA 3, N, .inr (.inr (.inr (.inr (fun _ => none))))))]) → va_S A H0 H1 locs → W p l e R s m args below meth c H1 locs (cells + 1) (slots + N) Q (F0 m (pc + 3) ls (.ref q :: rest))) : W p l e R s m args below meth c H locs cells slots Q (F0 m pc ls (.int n :: rest)) := by
  refine va_newq hx hb hown hclink (show va_AO "EvenLines$Sheet" s from hO.1) hK hP hD hS hA hn hN (by omega) hcells hslots hdg (fun q cB H1 hK1 hP hD hS => ?_)
  have e : cB = cA 3 := Option.some.inj ((va_nmO (hK1.2 5 (cB, .object "EvenLines$Sheet") rfl).2 rfl).symm.trans (va_nmO (hK.2 3 (cA 3, .object "EvenLines$Sheet") rfl).2 rfl))
  subst e
  exact kk q H1 hP hD hS
theorem kn_grid (hx : p.tables.exec = Jvm.exec) (hb : c.code = cc) {own : String} {index : Nat} (hown : s.vm.findClass own = some m.cls) (hclink : (Cond.classLink own index "[[J").before args s = true) (hO : Ov s) (harr : (Cond.arrayClass .long).before args s = true) (hK : va_K D vwCl (tysOf cA) s) (hP : va_P D vwCl ws H) (hD : va_D A ws) (hS : va_S A H0 H locs) (hA : ∀ q, H0.size ≤ q → A q)
    (hcells : cells + 12 ≤ R.cells) (hslots : slots + 1111 ≤ R.slots) (hdg : decode cc pc = .ok (.multianewarray index 2, 4))
    (kk : ∀ (q : Nat) (H1 : Heap), va_P D vwCl (ws ++ mg_w (cA 4) (cA 1) q) H1 → va_D A (ws ++ mg_w (cA 4) (cA 1) q) → va_S A H0 H1 locs → W p l e R s m args below meth c H1 locs (cells + 12) (slots + 1111) Q (F0 m (pc + 4) ls (.ref q :: rest))) : W p l e R s m args below meth c H locs cells slots Q (F0 m pc ls (.int 100 :: .int 11 :: rest)) := by
  intro T hT X
  have hcl : (Cond.classLink own index ("[" ++ (FieldType.array .long).toString)).before args s = true := by
    rw [show "[" ++ (FieldType.array .long).toString = "[[J" by decide +kernel]
    exact hclink
  have fA : s.vm.findClass ("[" ++ (FieldType.array .long).toString) = some (cA 4) := (hK.2 4 (cA 4, .array .long) rfl).2
  have fC : s.vm.findClass (FieldType.array .long).toString = some (cA 1) := (hK.2 1 (cA 1, .long) rfl).2
  obtain ⟨vm₁, c4, c1, g4, g1, X', step⟩ := gd_step X hx hown hcl hO.2.1 harr (g := F0 m pc ls (.int 100 :: .int 11 :: rest)) rfl (by rw [hb]; exact hdg) rfl hcells hslots
  cases fA.symm.trans g4
  cases fC.symm.trans g1
  have hF : (gd_st (cA 4) (cA 1) (T.setVm vm₁) 11).heap = gd_heap (cA 4) (cA 1) H 11 := by rw [← hT]; rfl
  generalize gd_st (cA 4) (cA 1) (T.setVm vm₁) 11 = F at X' step hF
  have f1 : F.heap.size = H.size + 12 := by rw [hF, gd_size]
  have f2 : F.heap[H.size]? = some (gd_top (cA 4) H.size 11) := by rw [hF]; exact gd_at_top _ _ _ _
  have hold : ∀ x : Nat, x < H.size → F.heap[x]? = H[x]? := fun x hx => by rw [hF]; exact gd_old hx
  have hrow : ∀ j : Nat, j < 11 → F.heap[H.size + 1 + j]? = some (vp_cell (cA 1) (100, .inr (.inl zJ))) := fun j hj => by rw [hF]; exact gd_at_row _ _ _ hj
  have hP1 : va_P D vwCl (ws ++ mg_w (cA 4) (cA 1) H.size) F.heap := (hP.kept (fun k9 x hx => hold x.1 ((hP k9 x hx).lt))).app (fun k9 x hx => by
    obtain ⟨x1, x2⟩ := x
    obtain ⟨e1, (⟨h0, e2⟩ | ⟨h0, h1, e2⟩)⟩ := mg_w_at hx
    · have e1 : x1 = H.size + k9 := e1
      have e2 : x2 = _ := e2
      subst e1 e2 h0
      show F.heap[H.size]? = _
      rw [vp_cell_q]
      exact f2
    · have e1 : x1 = H.size + k9 := e1
      have e2 : x2 = _ := e2
      subst e1 e2
      show F.heap[H.size + k9]? = _
      have := hrow (k9 - 1) (by omega)
      rw [show H.size + 1 + (k9 - 1) = H.size + k9 by omega] at this
      exact this)
  have hD1 : va_D A (ws ++ mg_w (cA 4) (cA 1) H.size) := by
    refine hD.app ⟨fun i j x y hi hj hxy => ?_, fun k9 x hx => ?_⟩ (fun i j x y hi hj => ?_)
    · have := (mg_w_at hi).1
      have := (mg_w_at hj).1
      omega
    · refine hA _ ?_
      have := (mg_w_at hx).1
      have := hS.1
      omega
    · have := (hP i x hi).lt
      have := (mg_w_at hj).1
      omega
  obtain ⟨t, a1, b1⟩ := kk H.size F.heap hP1 hD1 ⟨by rw [f1]; have := hS.1; omega, fun x h1 h2 => (hold x (Nat.lt_of_lt_of_le h1 hS.1)).trans (hS.2.1 x h1 h2), hS.2.2⟩ F rfl X'
  refine ⟨t, step t ?_, b1⟩
  have e : T.heap.size = H.size := by rw [hT]
  rw [e]
  exact a1
end KN
