
def gV (h : Hp) (c k j : Nat) : Option Value := if k < 47 then (match h k with
  | .inr (c', fs) => if c' = c then fs[j]? else none
  | _ => none) else none
def gI (h : Hp) (c k j : Nat) : Option Int32 := match gV h c k j with
  | some (.int x) => some x
  | _ => none
def gR (h : Hp) (c k j : Nat) : Option Nat := match gV h c k j with
  | some (.ref x) => some x
  | _ => none
def sF (h : Hp) (c k j : Nat) (v : Value) : Option Hp := if k < 47 then (match h k with
  | .inr (c', fs) => if c' = c ∧ j < fs.length then some (hu h k (.inr (c, fs.set j v))) else none
  | _ => none) else none
def aInt (t : Nat) (h : Hp) (k : Nat) : Option (Nat × (Nat → Int32)) := if k < 47 then (match h k with
  | .inl (t', n, .inl f) => if t' = t then some (n, f) else none
  | _ => none) else none
def aLng (h : Hp) (k : Nat) : Option (Nat × (Nat → Int64)) := if k < 47 then (match h k with
  | .inl (t', n, .inr (.inl f)) => if t' = 1 then some (n, f) else none
  | _ => none) else none
def aRef (t : Nat) (h : Hp) (k : Nat) : Option (Nat × (Nat → Option Nat)) := if k < 47 then (match h k with
  | .inl (t', n, .inr (.inr (.inr (.inr f)))) => if t' = t then some (n, f) else none
  | _ => none) else none
def iA (n : Nat) (f : Nat → Int32) : Cl := .inl (0, n, .inl f)
def zA (n : Nat) (f : Nat → Int32) : Cl := .inl (2, n, .inl f)
def jA (n : Nat) (f : Nat → Int64) : Cl := .inl (1, n, .inr (.inl f))
def qA (t n : Nat) (f : Nat → Option Nat) : Cl := .inl (t, n, .inr (.inr (.inr (.inr f))))
def ob (c : Nat) (fs : List Value) : Cl := .inr (c, fs)
abbrev inI (i : Int32) (n : Nat) : Prop := 0 ≤ i ∧ i.toNatClampNeg < n
def lT (t : Nat) (h : Hp) (k : Nat) (i : Int32) : Option Int32 := match aInt t h k with
  | some (n, f) => if inI i n then some (f i.toNatClampNeg) else none
  | none => none
def lI (h : Hp) (k : Nat) (i : Int32) : Option Int32 := lT 0 h k i
def lZ (h : Hp) (k : Nat) (i : Int32) : Option Int32 := lT 2 h k i
def lJ (h : Hp) (k : Nat) (i : Int32) : Option Int64 := match aLng h k with
  | some (n, f) => if inI i n then some (f i.toNatClampNeg) else none
  | none => none
def lQ (t : Nat) (h : Hp) (k : Nat) (i : Int32) : Option Nat := match aRef t h k with
  | some (n, f) => if inI i n then f i.toNatClampNeg else none
  | none => none
def sI (h : Hp) (k : Nat) (i x : Int32) : Option Hp := match aInt 0 h k with
  | some (n, f) => if inI i n then some (hu h k (iA n (upd f i.toNatClampNeg x))) else none
  | none => none
def sZ (h : Hp) (k : Nat) (i x : Int32) : Option Hp := match aInt 2 h k with
  | some (n, f) => if inI i n ∧ (x = 0 ∨ x = 1) then some (hu h k (zA n (upd f i.toNatClampNeg x))) else none
  | none => none
def sJ (h : Hp) (k : Nat) (i : Int32) (x : Int64) : Option Hp := match aLng h k with
  | some (n, f) => if inI i n then some (hu h k (jA n (vp_updL f i.toNatClampNeg x))) else none
  | none => none
def cpyI (h : Hp) (a : Nat) (i : Int32) (b : Nat) (j n : Int32) : Option Hp := match aInt 0 h a, aInt 0 h b with
  | some (na, f), some (nb, g) => if 0 ≤ i ∧ 0 ≤ j ∧ 0 ≤ n ∧ i.toNatClampNeg + n.toNatClampNeg ≤ na ∧ j.toNatClampNeg + n.toNatClampNeg ≤ nb then some (hu h b (iA nb (va_cpy f g i.toNatClampNeg j.toNatClampNeg n.toNatClampNeg))) else none
  | _, _ => none
theorem in_vp {i : Int32} {n : Nat} (h : inI i n) : vp_in i n := fun q => q.elim (fun q => absurd h.1 (Int32.not_le.mpr q)) (fun q => absurd h.2 (Nat.not_lt.mpr q))
theorem gV_spec {h : Hp} {c k j : Nat} {v : Value} (e : gV h c k j = some v) : k < 47 ∧ ∃ fs, h k = .inr (c, fs) ∧ fs[j]? = some v := by
  unfold gV at e
  split at e
  · refine ⟨by assumption, ?_⟩
    split at e
    · rename_i c' fs hh
      split at e
      · rename_i hc
        subst hc
        exact ⟨fs, hh, e⟩
      · cases e
    · cases e
  · cases e
theorem gI_spec {h : Hp} {c k j : Nat} {x : Int32} (e : gI h c k j = some x) : gV h c k j = some (.int x) := by
  unfold gI at e
  split at e
  · cases e; assumption
  · cases e
theorem gR_spec {h : Hp} {c k j : Nat} {x : Nat} (e : gR h c k j = some x) : gV h c k j = some (.ref x) := by
  unfold gR at e
  split at e
  · cases e; assumption
  · cases e
theorem sF_spec {h h' : Hp} {c k j : Nat} {v : Value} (e : sF h c k j v = some h') : k < 47 ∧ ∃ fs, h k = .inr (c, fs) ∧ j < fs.length ∧ h' = hu h k (.inr (c, fs.set j v)) := by
  unfold sF at e
  split at e
  · refine ⟨by assumption, ?_⟩
    split at e
    · rename_i c' fs hh
      split at e
      · rename_i hc
        obtain ⟨hc, hl⟩ := hc
        subst hc
        cases e
        exact ⟨fs, hh, hl, rfl⟩
      · cases e
    · cases e
  · cases e
theorem aInt_spec {t : Nat} {h : Hp} {k n : Nat} {f : Nat → Int32} (e : aInt t h k = some (n, f)) : k < 47 ∧ h k = .inl (t, n, .inl f) := by
  unfold aInt at e
  split at e
  · refine ⟨by assumption, ?_⟩
    split at e
    · rename_i t' n' f' hh
      split at e
      · rename_i ht
        subst ht
        cases e
        exact hh
      · cases e
    · cases e
  · cases e
theorem aLng_spec {h : Hp} {k n : Nat} {f : Nat → Int64} (e : aLng h k = some (n, f)) : k < 47 ∧ h k = .inl (1, n, .inr (.inl f)) := by
  unfold aLng at e
  split at e
  · refine ⟨by assumption, ?_⟩
    split at e
    · rename_i t' n' f' hh
      split at e
      · rename_i ht
        subst ht
        cases e
        exact hh
      · cases e
    · cases e
  · cases e
theorem aRef_spec {t : Nat} {h : Hp} {k n : Nat} {f : Nat → Option Nat} (e : aRef t h k = some (n, f)) : k < 47 ∧ h k = .inl (t, n, .inr (.inr (.inr (.inr f)))) := by
  unfold aRef at e
  split at e
  · refine ⟨by assumption, ?_⟩
    split at e
    · rename_i t' n' f' hh
      split at e
      · rename_i ht
        subst ht
        cases e
        exact hh
      · cases e
    · cases e
  · cases e
theorem lT_spec {t : Nat} {h : Hp} {k : Nat} {i x : Int32} (e : lT t h k i = some x) : ∃ n f, k < 47 ∧ h k = .inl (t, n, .inl f) ∧ inI i n ∧ x = f i.toNatClampNeg := by
  unfold lT at e
  split at e
  · rename_i n f hh
    split at e
    · rename_i hi
      cases e
      exact ⟨n, f, (aInt_spec hh).1, (aInt_spec hh).2, hi, rfl⟩
    · cases e
  · cases e
theorem lJ_spec {h : Hp} {k : Nat} {i : Int32} {x : Int64} (e : lJ h k i = some x) : ∃ n f, k < 47 ∧ h k = .inl (1, n, .inr (.inl f)) ∧ inI i n ∧ x = f i.toNatClampNeg := by
  unfold lJ at e
  split at e
  · rename_i n f hh
    split at e
    · rename_i hi
      cases e
      exact ⟨n, f, (aLng_spec hh).1, (aLng_spec hh).2, hi, rfl⟩
    · cases e
  · cases e
theorem lQ_spec {t : Nat} {h : Hp} {k : Nat} {i : Int32} {x : Nat} (e : lQ t h k i = some x) : ∃ n f, k < 47 ∧ h k = .inl (t, n, .inr (.inr (.inr (.inr f)))) ∧ inI i n ∧ f i.toNatClampNeg = some x := by
  unfold lQ at e
  split at e
  · rename_i n f hh
    split at e
    · rename_i hi
      exact ⟨n, f, (aRef_spec hh).1, (aRef_spec hh).2, hi, e⟩
    · cases e
  · cases e
theorem sI_spec {h h' : Hp} {k : Nat} {i x : Int32} (e : sI h k i x = some h') : ∃ n f, k < 47 ∧ h k = .inl (0, n, .inl f) ∧ inI i n ∧ h' = hu h k (iA n (upd f i.toNatClampNeg x)) := by
  unfold sI at e
  split at e
  · rename_i n f hh
    split at e
    · rename_i hi
      cases e
      exact ⟨n, f, (aInt_spec hh).1, (aInt_spec hh).2, hi, rfl⟩
    · cases e
  · cases e
theorem sZ_spec {h h' : Hp} {k : Nat} {i x : Int32} (e : sZ h k i x = some h') : ∃ n f, k < 47 ∧ h k = .inl (2, n, .inl f) ∧ inI i n ∧ (x = 0 ∨ x = 1) ∧ h' = hu h k (zA n (upd f i.toNatClampNeg x)) := by
  unfold sZ at e
  split at e
  · rename_i n f hh
    split at e
    · rename_i hi
      cases e
      exact ⟨n, f, (aInt_spec hh).1, (aInt_spec hh).2, hi.1, hi.2, rfl⟩
    · cases e
  · cases e
theorem sJ_spec {h h' : Hp} {k : Nat} {i : Int32} {x : Int64} (e : sJ h k i x = some h') : ∃ n f, k < 47 ∧ h k = .inl (1, n, .inr (.inl f)) ∧ inI i n ∧ h' = hu h k (jA n (vp_updL f i.toNatClampNeg x)) := by
  unfold sJ at e
  split at e
  · rename_i n f hh
    split at e
    · rename_i hi
      cases e
      exact ⟨n, f, (aLng_spec hh).1, (aLng_spec hh).2, hi, rfl⟩
    · cases e
  · cases e
theorem cpyI_spec {h h' : Hp} {a b : Nat} {i j n : Int32} (e : cpyI h a i b j n = some h') : ∃ na f nb g, a < 47 ∧ b < 47 ∧ h a = .inl (0, na, .inl f) ∧ h b = .inl (0, nb, .inl g) ∧ 0 ≤ i ∧ 0 ≤ j ∧ 0 ≤ n ∧ i.toNatClampNeg + n.toNatClampNeg ≤ na ∧ j.toNatClampNeg + n.toNatClampNeg ≤ nb ∧ h' = hu h b (iA nb (va_cpy f g i.toNatClampNeg j.toNatClampNeg n.toNatClampNeg)) := by
  unfold cpyI at e
  split at e
  · rename_i na f nb g ha hb
    split at e
    · rename_i hi
      cases e
      exact ⟨na, f, nb, g, (aInt_spec ha).1, (aInt_spec hb).1, (aInt_spec ha).2, (aInt_spec hb).2, hi.1, hi.2.1, hi.2.2.1, hi.2.2.2.1, hi.2.2.2.2, rfl⟩
    · cases e
  · cases e
/-- the links of a field's use -/
def FL (own : String) (idx ci j : Nat) : Prop := ∃ (C : String) (T : u_T) (N : Nat), vwCl[ci]? = some (C, T, N) ∧ j < N ∧ (∀ w ∈ u_ws C T N, w ∈ lw_g) ∧ Cond.fieldLink own idx (T j).1 (T j).2.1 (T j).2.2.1 ∈ lw_g
def FP (own : String) (idx ci j : Nat) (ty : FieldType) : Prop := ∃ (C : String) (T : u_T) (N : Nat) (ty0 : Nat → FieldType), vwCl[ci]? = some (C, T, N) ∧ j < N ∧ (∀ w ∈ u_ws C T N, w ∈ lw_g) ∧ Cond.fieldLink own idx (T j).1 (T j).2.1 (T j).2.2.1 ∈ lw_g ∧
  (∀ k, k < N → parseFieldDescriptor (T k).2.2.1 = some (ty0 k)) ∧ (∀ a, a < N → ∀ b, b < N → a ≠ b → (T a).2.1 ≠ (T b).2.1) ∧ (T j).2.2.2 = false ∧ parseFieldDescriptor (T j).2.2.1 = some ty
abbrev MI : Type := MethodName × ByteArray × Nat × Option FieldType × Option Nat
def wsM (mi : MI) : List Cond := .code mi.1 mi.2.1 mi.2.2.1 mi.2.2.2.1 :: lw_g
def rmd (d : Nat) : Room := { frames := d, cells := 0, slots := 0, locals := 64 * d }
def AD (ad : Nat → Nat) : Nat → Prop := fun q => ∃ k, k < 47 ∧ q = ad k
def Qx (P : Option Value → Hp → Prop) (dC : Nat → ClassId) (dI : Nat → Nat → Nat) (ad : Nat → Nat) (cA : Nat → ClassId) : Array Value → State → Outcome → State → Prop :=
  fun _ st oc t => (∃ (r : Option Value) (h' : Hp), oc = .returned (r.map (cvV ad)) ∧ P r h' ∧ va_P (dC, dI) vwCl (wl ad cA h') t.heap) ∧ va_F (AD ad) st t
/-- the contract: from the heap h with the arguments av the method returns, and its answer and heap are as P wants -/
def CC (mi : MI) (d : Nat) (av : List Value) (h : Hp) (P : Option Value → Hp → Prop) : Prop :=
  ∀ (l : Launch) (dC : Nat → ClassId) (dI : Nat → Nat → Nat) (ad : Nat → Nat) (cA : Nat → ClassId), Met l mi.1 (wsM mi) (rmd d) (va_Pc (av.map (cvV ad)) (fun U => va_P (dC, dI) vwCl (wl ad cA h) U.heap ∧ EnvOk dC dI ad cA U)) (Qx P dC dI ad cA) 0 0 (AD ad)
def Rok (mi : MI) (av : List Value) (h : Hp) : Prop := match mi.2.2.2.2 with
  | some ci => ∃ k, av.head? = some (.ref k) ∧ k < 47 ∧ ∃ fs, h k = .inr (ci, fs)
  | none => True
def CI (mi : MI) (d : Nat) (av : List Value) (h : Hp) (P : Int32 → Hp → Prop) : Prop := Rok mi av h ∧ CC mi d av h (fun r h' => ∃ x, r = some (.int x) ∧ P x h')
def CJ (mi : MI) (d : Nat) (av : List Value) (h : Hp) (P : Int64 → Hp → Prop) : Prop := Rok mi av h ∧ CC mi d av h (fun r h' => ∃ x, r = some (.long x) ∧ P x h')
def CV (mi : MI) (d : Nat) (av : List Value) (h : Hp) (P : Hp → Prop) : Prop := Rok mi av h ∧ CC mi d av h (fun r h' => r = none ∧ P h')
def KM (ret : Option FieldType) (P : Option Value → Hp → Prop) : CxT := fun dC dI ad cA A _ _ _ _ s _ args below meth _ cells slots Q =>
  cells = 0 ∧ slots = 0 ∧ A = AD ad ∧ Q = MQ below (Qx P dC dI ad cA) args s 0 0 A ∧ meth.sig.returnType = ret ∧ meth.locks = false
theorem EnvOk.moved {dC : Nat → ClassId} {dI : Nat → Nat → Nat} {ad : Nat → Nat} {cA : Nat → ClassId} {u U : State} (hvm : u.vm.Alike U.vm) (h : EnvOk dC dI ad cA u) : EnvOk dC dI ad cA U := ⟨va_K.moved hvm h.1, h.2⟩
theorem lg_len (ad : Nat → Nat) : ∀ (av : List Value), (lg_sl (av.map (cvV ad))).length = (lg_sl av).length
  | [] => rfl
  | v :: vs => by
    have ih := lg_len ad vs
    simp only [lg_sl, List.map_cons, List.flatMap_cons, List.length_append] at ih ⊢
    rw [ih]
    congr 1
    cases v <;> rfl
theorem lv_cvL (ad : Nat → Nat) : ∀ (i : Nat) (av : List Value), lv_args i (av.map (cvV ad)) = cvL ad (lv_args i av)
  | _, [] => rfl
  | i, v :: vs => by
    have ih := lv_cvL ad (if v.category = 2 then i + 2 else i + 1) vs
    simp only [List.map_cons, lv_args, cvL, cv_cat] at ih ⊢
    rw [ih]
theorem CC.mono {mi : MI} {d : Nat} {av : List Value} {h : Hp} {P P' : Option Value → Hp → Prop} (hc : CC mi d av h P) (hp : ∀ r h', P r h' → P' r h') : CC mi d av h P' := by
  intro l dC dI ad cA p e ha hc1 hk s m args below hf h1 h2 h3
  obtain ⟨k, o, a1, a2, a3, ⟨⟨⟨r, h', b1, b2, b3⟩, b4⟩, b5⟩⟩ := hc l dC dI ad cA p e ha hc1 hk s m args below hf h1 h2 h3
  exact ⟨k, o, a1, a2, a3, ⟨⟨⟨r, h', b1, hp r h' b2, b3⟩, b4⟩, b5⟩⟩
theorem CI.mono {mi : MI} {d : Nat} {av : List Value} {h : Hp} {P P' : Int32 → Hp → Prop} (hc : CI mi d av h P) (hp : ∀ r h', P r h' → P' r h') : CI mi d av h P' := ⟨hc.1, hc.2.mono (fun _ _ ⟨x, e, q⟩ => ⟨x, e, hp x _ q⟩)⟩
theorem CJ.mono {mi : MI} {d : Nat} {av : List Value} {h : Hp} {P P' : Int64 → Hp → Prop} (hc : CJ mi d av h P) (hp : ∀ r h', P r h' → P' r h') : CJ mi d av h P' := ⟨hc.1, hc.2.mono (fun _ _ ⟨x, e, q⟩ => ⟨x, e, hp x _ q⟩)⟩
theorem CV.mono {mi : MI} {d : Nat} {av : List Value} {h : Hp} {P P' : Hp → Prop} (hc : CV mi d av h P) (hp : ∀ h', P h' → P' h') : CV mi d av h P' := ⟨hc.1, hc.2.mono (fun _ _ ⟨e, q⟩ => ⟨e, hp _ q⟩)⟩
def MOk (mi : MI) : Prop := plainName mi.1.cls = true ∧ Cond.code mi.1 mi.2.1 mi.2.2.1 mi.2.2.2.1 ∈ lw_g ∧ mi.2.2.1 ≤ 40
theorem x_enter {mi : MI} {d : Nat} {av : List Value} {h : Hp} {P : Option Value → Hp → Prop} (hm : plainName mi.1.cls = true) (hlen : (lg_sl av).length ≤ mi.2.2.1)
    (k : X (KM mi.2.2.2.1 P) mi.1.cls mi.2.1 mi.2.2.1 d h 0 (lv_args 0 av) []) : CC mi d av h P := by
  intro l dC dI ad cA
  refine Met.ofW (cc := mi.2.1) (maxL := mi.2.2.1) (ret := mi.2.2.2.1) hm rfl ?_
  intro p e s m args below meth c s₁ B hml hv
  obtain ⟨rfl, hP, hE⟩ := hv
  have hts := atoms_spec (ws := wsM mi) B.pre
  have hl := lv_entry (av.map (cvV ad)) (n := mi.2.2.1) (by rw [lg_len]; exact hlen)
  rw [lg_entry_eq]
  generalize (lg_sl (av.map (cvV ad)) ++ List.replicate (mi.2.2.1 - (lg_sl (av.map (cvV ad))).length) Slot.unset).toArray = ls at hl ⊢
  rw [lv_cvL] at hl
  exact k dC dI ad cA (AD ad) p l e (rmd d) s m _ below meth c 0 0 _ ⟨rfl, rfl, rfl, rfl, B.returns, B.notSynchronized⟩
    ⟨B.exec, B.bytes, hml, findClass_of_methodNamed B.named, fun w hw => hts w (List.mem_cons_of_mem _ hw), Nat.le_refl _, Nat.le_refl _, hE, fun i hi => ⟨i, hi, rfl⟩, Nat.le_refl _, Nat.le_refl _⟩ s.heap [] ls ⟨hP, va_S.rf⟩ hl
theorem Qx_of {P : Option Value → Hp → Prop} {dC : Nat → ClassId} {dI : Nat → Nat → Nat} {ad : Nat → Nat} {cA : Nat → ClassId} {args : Array Value} {s t : State} {h : Hp} {H : Heap} {locs : List Loc} {r : Option Value} (hW : Wd dC dI ad cA (AD ad) s h H locs) (hp : P r h) (ht : t.heap = H) : Qx P dC dI ad cA args s (.returned (r.map (cvV ad))) t :=
  ⟨⟨r, h, rfl, hp, by rw [ht]; exact hW.1⟩, hW.2.F ht⟩
theorem x_vret {P : Option Value → Hp → Prop} {own : String} {cc : ByteArray} {nL d : Nat} {h : Hp} {pc : Nat} {lv : List (Nat × Value)} (hd : decode cc pc = .ok (.return_, 1)) (hp : P none h) : X (KM none P) own cc nL d h pc lv [] := by
  intro dC dI ad cA A p l e R s m args below meth c cells slots Q hK hB H locs ls hW hl
  obtain ⟨rfl, rfl, rfl, rfl, hr, hlk⟩ := hK
  exact W.vret hB.1 hB.2.1 hr (fun t ht _ => Qx_of (r := none) hW hp ht) hW.2.2.2 hd
theorem x_iret {P : Option Value → Hp → Prop} {own : String} {cc : ByteArray} {nL d : Nat} {h : Hp} {pc : Nat} {lv : List (Nat × Value)} {v : Int32} (hd : decode cc pc = .ok (.ireturn, 1)) (hp : P (some (.int v)) h) : X (KM (some .int) P) own cc nL d h pc lv [.int v] := by
  intro dC dI ad cA A p l e R s m args below meth c cells slots Q hK hB H locs ls hW hl
  obtain ⟨rfl, rfl, rfl, rfl, hr, hlk⟩ := hK
  exact W.iret (v := v) hB.1 hB.2.1 hr (fun t ht _ => Qx_of (r := some (.int v)) hW hp ht) hW.2.2.2 hd
theorem x_zret {P : Option Value → Hp → Prop} {own : String} {cc : ByteArray} {nL d : Nat} {h : Hp} {pc : Nat} {lv : List (Nat × Value)} {v : Int32} (hd : decode cc pc = .ok (.ireturn, 1)) (hz : v = 0 ∨ v = 1) (hp : P (some (.int v)) h) : X (KM (some .boolean) P) own cc nL d h pc lv [.int v] := by
  intro dC dI ad cA A p l e R s m args below meth c cells slots Q hK hB H locs ls hW hl
  obtain ⟨rfl, rfl, rfl, rfl, hr, hlk⟩ := hK
  exact W.zret (v := v) hB.1 hB.2.1 hr (by rcases hz with rfl | rfl <;> rfl) (fun t ht _ => Qx_of (r := some (.int v)) hW hp ht) hW.2.2.2 hd
theorem x_lret {P : Option Value → Hp → Prop} {own : String} {cc : ByteArray} {nL d : Nat} {h : Hp} {pc : Nat} {lv : List (Nat × Value)} {v : Int64} (hd : decode cc pc = .ok (.lreturn, 1)) (hp : P (some (.long v)) h) : X (KM (some .long) P) own cc nL d h pc lv [.long v] := by
  intro dC dI ad cA A p l e R s m args below meth c cells slots Q hK hB H locs ls hW hl
  obtain ⟨rfl, rfl, rfl, rfl, hr, hlk⟩ := hK
  exact W.lret (v := v) hB.1 hB.2.1 hr (fun t ht _ => Qx_of (r := some (.long v)) hW hp ht) hW.2.2.2 hd
section XH
variable {K : CxT} {own : String} {cc : ByteArray} {nL d : Nat} {h : Hp} {pc : Nat} {lv : List (Nat × Value)} {st : List Value}

theorem x_getI {idx ci j r : Nat} {x : Int32} (hf : FL own idx ci j) (hd : decode cc pc = .ok (.getfield idx, 3)) (hg : gI h ci r j = some x) (k : X K own cc nL d h (pc + 3) lv (.int x :: st)) : X K own cc nL d h pc lv (.ref r :: st) := by
  intro dC dI ad cA A p l e R s m args below meth c cells slots Q hK hB H locs ls hW hl
  obtain ⟨C, T, N, hc, hj, hin, hw⟩ := hf
  obtain ⟨hr, fs, he, hv⟩ := gV_spec (gI_spec hg)
  have hat : (wl ad cA h)[r]? = some (ad r, .inr (ci, fs.map (cvV ad))) := by rw [wl_at hr, he]; rfl
  exact va_get (v := cvV ad (.int x)) hB.1 hB.2.1 hB.2.2.2.2.1 hin hB.2.2.2.1 hB.2.2.2.2.2.2.2.1.1 hW.1 r hat hc j hj (hB.2.2.2.2.1 _ hw) (fun _ h9 => h9) (by rw [List.getElem?_map, hv]; rfl) hd (k dC dI ad cA A p l e R s m args below meth c cells slots Q hK hB H locs ls hW hl)
theorem x_getR {idx ci j r : Nat} {x : Nat} (hf : FL own idx ci j) (hd : decode cc pc = .ok (.getfield idx, 3)) (hg : gR h ci r j = some x) (k : X K own cc nL d h (pc + 3) lv (.ref x :: st)) : X K own cc nL d h pc lv (.ref r :: st) := by
  intro dC dI ad cA A p l e R s m args below meth c cells slots Q hK hB H locs ls hW hl
  obtain ⟨C, T, N, hc, hj, hin, hw⟩ := hf
  obtain ⟨hr, fs, he, hv⟩ := gV_spec (gR_spec hg)
  have hat : (wl ad cA h)[r]? = some (ad r, .inr (ci, fs.map (cvV ad))) := by rw [wl_at hr, he]; rfl
  exact va_get (v := cvV ad (.ref x)) hB.1 hB.2.1 hB.2.2.2.2.1 hin hB.2.2.2.1 hB.2.2.2.2.2.2.2.1.1 hW.1 r hat hc j hj (hB.2.2.2.2.1 _ hw) (fun _ h9 => h9) (by rw [List.getElem?_map, hv]; rfl) hd (k dC dI ad cA A p l e R s m args below meth c cells slots Q hK hB H locs ls hW hl)
theorem x_putI {idx ci j r : Nat} {h' : Hp} {x : Int32} {ty : FieldType} (hf : FP own idx ci j ty) (hn : narrow ty (.int x) = .int x) (hfit : fits ty (.int x) = true) (hd : decode cc pc = .ok (.putfield idx, 3)) (hg : sF h ci r j (.int x) = some h') (k : X K own cc nL d h' (pc + 3) lv st) : X K own cc nL d h pc lv (.int x :: .ref r :: st) := by
  intro dC dI ad cA A p l e R s m args below meth c cells slots Q hK hB H locs ls hW hl
  obtain ⟨C, T, N, ty0, hc, hj, hin, hw, hty, hnm, hfin, hpd⟩ := hf
  obtain ⟨hr, fs, he, hl2, rfl⟩ := sF_spec hg
  have hat : (wl ad cA h)[r]? = some (ad r, .inr (ci, fs.map (cvV ad))) := by rw [wl_at hr, he]; rfl
  refine va_put (v := .int x) hB.1 hB.2.1 hB.2.2.2.2.1 hin ty0 hty hnm hB.2.2.2.1 hB.2.2.2.2.2.2.2.1.1 hW.1 (hB.2.2.2.2.2.2.2.1.D hB.2.2.2.2.2.2.2.2.1 h) hW.2 r hat hc j hj (hB.2.2.2.2.1 _ hw) (fun _ h9 => h9) hfin hpd hn hfit (by rw [List.length_map]; exact hl2) hd (fun H1 locs1 hP1 _ hS1 => ?_)
  have hW' : Wd dC dI ad cA A s (hu h r (.inr (ci, fs.set j (.int x)))) H1 locs1 := ⟨by
    rw [← wl_set]
    have : (Value.int x) = cvV ad (.int x) := rfl
    rw [this, ← List.map_set] at hP1
    exact hP1, hS1⟩
  exact k dC dI ad cA A p l e R s m args below meth c cells slots Q hK hB H1 locs1 ls hW' hl
theorem x_iaload {r : Nat} {i : Int32} {x : Int32} (hd : decode cc pc = .ok (.iaload, 1)) (hg : lI h r i = some x) (k : X K own cc nL d h (pc + 1) lv (.int x :: st)) : X K own cc nL d h pc lv (.int i :: .ref r :: st) := by
  intro dC dI ad cA A p l e R s m args below meth c cells slots Q hK hB H locs ls hW hl
  obtain ⟨n, f, hr, he, hi, rfl⟩ := lT_spec hg
  have hat : (wl ad cA h)[r]? = some (ad r, .inl (cA 0, n, .inl f)) := by rw [wl_at hr, he]; rfl
  exact va_iald hB.1 hB.2.1 hB.2.2.2.2.2.2.2.1.1 hW.1 r 0 hat rfl (in_vp hi) hd (k dC dI ad cA A p l e R s m args below meth c cells slots Q hK hB H locs ls hW hl)
theorem x_baload {r : Nat} {i : Int32} {x : Int32} (hd : decode cc pc = .ok (.baload, 1)) (hg : lZ h r i = some x) (k : X K own cc nL d h (pc + 1) lv (.int x :: st)) : X K own cc nL d h pc lv (.int i :: .ref r :: st) := by
  intro dC dI ad cA A p l e R s m args below meth c cells slots Q hK hB H locs ls hW hl
  obtain ⟨n, f, hr, he, hi, rfl⟩ := lT_spec hg
  have hat : (wl ad cA h)[r]? = some (ad r, .inl (cA 2, n, .inl f)) := by rw [wl_at hr, he]; rfl
  exact va_zald hB.1 hB.2.1 hB.2.2.2.2.2.2.2.1.1 hW.1 r 2 hat rfl (in_vp hi) hd (k dC dI ad cA A p l e R s m args below meth c cells slots Q hK hB H locs ls hW hl)
theorem x_laload {r : Nat} {i : Int32} {x : Int64} (hd : decode cc pc = .ok (.laload, 1)) (hg : lJ h r i = some x) (k : X K own cc nL d h (pc + 1) lv (.long x :: st)) : X K own cc nL d h pc lv (.int i :: .ref r :: st) := by
  intro dC dI ad cA A p l e R s m args below meth c cells slots Q hK hB H locs ls hW hl
  obtain ⟨n, f, hr, he, hi, rfl⟩ := lJ_spec hg
  have hat : (wl ad cA h)[r]? = some (ad r, .inl (cA 1, n, .inr (.inl f))) := by rw [wl_at hr, he]; rfl
  exact va_lald hB.1 hB.2.1 hB.2.2.2.2.2.2.2.1.1 hW.1 r 1 hat rfl (in_vp hi) hd (k dC dI ad cA A p l e R s m args below meth c cells slots Q hK hB H locs ls hW hl)
theorem x_aaload3 {r : Nat} {i : Int32} {x : Nat} (hd : decode cc pc = .ok (.aaload, 1)) (hg : lQ 3 h r i = some x) (k : X K own cc nL d h (pc + 1) lv (.ref x :: st)) : X K own cc nL d h pc lv (.int i :: .ref r :: st) := by
  intro dC dI ad cA A p l e R s m args below meth c cells slots Q hK hB H locs ls hW hl
  obtain ⟨n, f, hr, he, hi, hx⟩ := lQ_spec hg
  have hat : (wl ad cA h)[r]? = some (ad r, .inl (cA 3, n, .inr (.inr (.inr (.inr (fun i => (f i).map ad)))))) := by rw [wl_at hr, he]; rfl
  have hlt : i.toNatClampNeg < n := hi.2
  have hk2 := hB.2.2.2.2.2.2.2.1.1.2 3 (cA 3, .object "EvenLines$Sheet") rfl
  exact W.aald (v := .ref (ad x)) (ty := .object "EvenLines$Sheet") hB.1 hB.2.1 (hW.1 r _ hat) (hk2.1 n (fun j => va_rf ((f j).map ad))) rfl (fun q => by cases q) (by show ¬ (i < 0 ∨ (arrV _ _ _).slots.size ≤ _); rw [arrV_size]; exact in_vp hi) (by show (arrV _ _ _).slots[_]? = _; rw [arrV_read _ _ hlt]; show some (va_rf ((f _).map ad)) = _; rw [hx]; rfl) rfl rfl hd (k dC dI ad cA A p l e R s m args below meth c cells slots Q hK hB H locs ls hW hl)
theorem x_aaload4 {r : Nat} {i : Int32} {x : Nat} (hd : decode cc pc = .ok (.aaload, 1)) (hg : lQ 4 h r i = some x) (k : X K own cc nL d h (pc + 1) lv (.ref x :: st)) : X K own cc nL d h pc lv (.int i :: .ref r :: st) := by
  intro dC dI ad cA A p l e R s m args below meth c cells slots Q hK hB H locs ls hW hl
  obtain ⟨n, f, hr, he, hi, hx⟩ := lQ_spec hg
  have hat : (wl ad cA h)[r]? = some (ad r, .inl (cA 4, n, .inr (.inr (.inr (.inr (fun i => (f i).map ad)))))) := by rw [wl_at hr, he]; rfl
  have hlt : i.toNatClampNeg < n := hi.2
  have hk2 := hB.2.2.2.2.2.2.2.1.1.2 4 (cA 4, .array .long) rfl
  exact W.aald (v := .ref (ad x)) (ty := .array .long) hB.1 hB.2.1 (hW.1 r _ hat) (hk2.1 n (fun j => va_rf ((f j).map ad))) rfl (fun q => by cases q) (by show ¬ (i < 0 ∨ (arrV _ _ _).slots.size ≤ _); rw [arrV_size]; exact in_vp hi) (by show (arrV _ _ _).slots[_]? = _; rw [arrV_read _ _ hlt]; show some (va_rf ((f _).map ad)) = _; rw [hx]; rfl) rfl rfl hd (k dC dI ad cA A p l e R s m args below meth c cells slots Q hK hB H locs ls hW hl)
theorem x_iastore {r : Nat} {h' : Hp} {i : Int32} {x : Int32} (hd : decode cc pc = .ok (.iastore, 1)) (hg : sI h r i x = some h') (k : X K own cc nL d h' (pc + 1) lv st) : X K own cc nL d h pc lv (.int x :: .int i :: .ref r :: st) := by
  intro dC dI ad cA A p l e R s m args below meth c cells slots Q hK hB H locs ls hW hl
  obtain ⟨n, f, hr, he, hi, rfl⟩ := sI_spec hg
  have hat : (wl ad cA h)[r]? = some (ad r, .inl (cA 0, n, .inl f)) := by rw [wl_at hr, he]; rfl
  refine va_iast hB.1 hB.2.1 hB.2.2.2.2.2.2.2.1.1 hW.1 (hB.2.2.2.2.2.2.2.1.D hB.2.2.2.2.2.2.2.2.1 h) hW.2 r 0 hat rfl (in_vp hi) hd (fun H1 locs1 hP1 _ hS1 => ?_)
  have hW' : Wd dC dI ad cA A s (hu h r (iA n (upd f i.toNatClampNeg x))) H1 locs1 := ⟨by rw [← wl_set]; exact hP1, hS1⟩
  exact k dC dI ad cA A p l e R s m args below meth c cells slots Q hK hB H1 locs1 ls hW' hl
theorem x_bastore {r : Nat} {h' : Hp} {i : Int32} {x : Int32} (hd : decode cc pc = .ok (.bastore, 1)) (hg : sZ h r i x = some h') (k : X K own cc nL d h' (pc + 1) lv st) : X K own cc nL d h pc lv (.int x :: .int i :: .ref r :: st) := by
  intro dC dI ad cA A p l e R s m args below meth c cells slots Q hK hB H locs ls hW hl
  obtain ⟨n, f, hr, he, hi, hx, rfl⟩ := sZ_spec hg
  have hat : (wl ad cA h)[r]? = some (ad r, .inl (cA 2, n, .inl f)) := by rw [wl_at hr, he]; rfl
  refine va_zast hB.1 hB.2.1 hB.2.2.2.2.2.2.2.1.1 hW.1 (hB.2.2.2.2.2.2.2.1.D hB.2.2.2.2.2.2.2.2.1 h) hW.2 r 2 hat rfl (in_vp hi) hd (fun H1 locs1 hP1 _ hS1 => ?_)
  have hnx : vp_nar .boolean x = x := by rcases hx with rfl | rfl <;> rfl
  rw [hnx] at hP1
  have hW' : Wd dC dI ad cA A s (hu h r (zA n (upd f i.toNatClampNeg x))) H1 locs1 := ⟨by rw [← wl_set]; exact hP1, hS1⟩
  exact k dC dI ad cA A p l e R s m args below meth c cells slots Q hK hB H1 locs1 ls hW' hl
theorem x_lastore {r : Nat} {h' : Hp} {i : Int32} {x : Int64} (hd : decode cc pc = .ok (.lastore, 1)) (hg : sJ h r i x = some h') (k : X K own cc nL d h' (pc + 1) lv st) : X K own cc nL d h pc lv (.long x :: .int i :: .ref r :: st) := by
  intro dC dI ad cA A p l e R s m args below meth c cells slots Q hK hB H locs ls hW hl
  obtain ⟨n, f, hr, he, hi, rfl⟩ := sJ_spec hg
  have hat : (wl ad cA h)[r]? = some (ad r, .inl (cA 1, n, .inr (.inl f))) := by rw [wl_at hr, he]; rfl
  refine va_last hB.1 hB.2.1 hB.2.2.2.2.2.2.2.1.1 hW.1 (hB.2.2.2.2.2.2.2.1.D hB.2.2.2.2.2.2.2.2.1 h) hW.2 r 1 hat rfl (in_vp hi) hd (fun H1 locs1 hP1 _ hS1 => ?_)
  have hW' : Wd dC dI ad cA A s (hu h r (jA n (vp_updL f i.toNatClampNeg x))) H1 locs1 := ⟨by rw [← wl_set]; exact hP1, hS1⟩
  exact k dC dI ad cA A p l e R s m args below meth c cells slots Q hK hB H1 locs1 ls hW' hl

theorem x_cont {rest st0 : List Value} {ls : Array Slot} {dC : Nat → ClassId} {dI : Nat → Nat → Nat} {ad : Nat → Nat} {cA : Nat → ClassId} {A : Nat → Prop} {p : Program} {l : Launch} {e : Env} {R : Room} {s : State} {m : MethodId} {args : Array Value} {below : List Frame} {meth : Method} {c : Code} {cells slots : Nat} {Q : State → Prop}
    {H : Heap} {locs : List Loc} {P : Option Value → Hp → Prop} {a : Array Value}
    (hK : K dC dI ad cA A p l e R s m args below meth c cells slots Q) (hB : Bs own cc nL d dC dI ad cA A p R s m args c cells slots) (hW : Wd dC dI ad cA A s h H locs) (hl : lv_has ls nL (cvL ad lv))
    (hr : va_Run p l e R s m args below meth c H locs cells slots 0 0 (F0 m pc ls st0) (rest.map (cvV ad)) (Qx P dC dI ad cA a) (AD ad))
    (kk : ∀ (r : Option Value) (h' : Hp), P r h' → X K own cc nL d h' (pc + 3) lv (r.toList ++ rest)) : W p l e R s m args below meth c H locs cells slots Q (F0 m pc ls st0) := by
  intro T hT X0
  obtain ⟨v, st₀, t, T', L, h0, X', hL, e1, e2, ⟨⟨r, h', hv, hp, hb⟩, hz, hk⟩, st⟩ := hr T hT X0
  cases hv
  rw [h0] at hz hk
  have hA : ∀ q, AD ad q → A q := fun q ⟨i, hi, hq⟩ => by rw [hq]; exact hB.2.2.2.2.2.2.2.2.1 i hi
  have hS := hW.2
  have hW' : Wd dC dI ad cA A s h' T'.heap (locs ++ L) := ⟨by rw [e1]; exact hb, ⟨Nat.le_trans hS.1 (by rw [e1]; exact hz), fun q h1 h2 => by rw [e1, hk q (Nat.lt_of_lt_of_le h1 hS.1) (fun z => h2 (hA q z))]; exact hS.2.1 q h1 h2, fun q hq => by
      rcases List.mem_append.mp hq with h | h
      · exact hS.2.2 q h
      · exact hA _ (hL q h)⟩⟩
  have := kk r h' hp dC dI ad cA A p l e R s m args below meth c cells slots Q hK hB T'.heap (locs ++ L) ls hW' hl
  have e9 : (r.toList ++ rest).map (cvV ad) = (r.map (cvV ad)).toList ++ rest.map (cvV ad) := by cases r <;> simp
  rw [e9] at this
  obtain ⟨t2, a1, b1⟩ := this T' rfl X'
  exact ⟨t2, st t2 a1, b1⟩
theorem lw_good : ∀ w ∈ lw_g, (w.onTables && w.keeps) = true ∨ ∃ ty, w = .arrayClass ty := by
  intro w hw
  exact good_of_word (List.mem_filter.mp hw).2
/-- the links of a call of a method on an object -/
def VL (own : String) (idx : Nat) (mi : MI) (n : Nat) : Prop := (∃ (ci : Nat) (T : u_T) (N : Nat), mi.2.2.2.2 = some ci ∧ vwCl[ci]? = some (mi.1.cls, T, N)) ∧ Cond.methodLink own idx mi.1 ∈ lw_g ∧ Cond.instanceMethod mi.1 ∈ lw_g ∧ Cond.selects mi.1.cls mi.1 mi.1 ∈ lw_g ∧ Cond.initialized mi.1.cls ∈ lw_g ∧ Cond.code mi.1 mi.2.1 mi.2.2.1 mi.2.2.2.1 ∈ lw_g ∧
  (mi.1.cls ≠ "java/lang/invoke/MethodHandle" ∧ mi.1.cls ≠ "java/lang/invoke/VarHandle" ∧ (parseMethodDescriptor mi.1.desc).map (fun d => d.parameters.length) = some n) ∧ mi.2.2.1 ≤ 40
def SL (own : String) (idx : Nat) (mi : MI) (n : Nat) : Prop := Cond.methodLink own idx mi.1 ∈ lw_g ∧ Cond.static mi.1 ∈ lw_g ∧ Cond.initialized mi.1.cls ∈ lw_g ∧ Cond.code mi.1 mi.2.1 mi.2.2.1 mi.2.2.2.1 ∈ lw_g ∧
  (mi.1.cls ≠ "java/lang/invoke/MethodHandle" ∧ mi.1.cls ≠ "java/lang/invoke/VarHandle" ∧ (parseMethodDescriptor mi.1.desc).map (fun d => d.parameters.length) = some n) ∧ mi.2.2.1 ≤ 40
theorem fb_pc {l : List Value} {dC : Nat → ClassId} {dI : Nat → Nat → Nat} {ad : Nat → Nat} {cA : Nat → ClassId} {h : Hp} : FrameBlind (va_Pc l (fun U => va_P (dC, dI) vwCl (wl ad cA h) U.heap ∧ EnvOk dC dI ad cA U)) :=
  fun a U g mk q => ⟨q.1, q.2.1, q.2.2.moved (u := U) (U := U.calling g mk a) (Vm.Alike.refl U.vm)⟩
theorem x_callV {mi : MI} {idx n b : Nat} {As stk : List Value} {P : Option Value → Hp → Prop} (hv : VL own idx mi n) (hd : decode cc pc = .ok (.invokevirtual idx, 3)) (hn : As.length = n) (hs : stk = As.reverse ++ .ref b :: st) (hr : (st.map fun v => v.category).sum ≤ 8)
    (ho : Rok mi (.ref b :: As) h) (hc : CC mi d (.ref b :: As) h P) (kk : ∀ (r : Option Value) (h' : Hp), P r h' → X K own cc nL (d + 1) h' (pc + 3) lv (r.toList ++ st)) : X K own cc nL (d + 1) h pc lv stk := by
  intro dC dI ad cA A p l e R s m args below meth c cells slots Q hK hB H locs ls hW hl
  obtain ⟨⟨ci, T, N, hci, hcl⟩, w1, w2, w3, w4, w5, hdd, h40⟩ := hv
  have hG : GoodIn lw_g (wsV own idx mi.1.cls mi.1 (wsM mi)) := by
    intro w hw
    have : w ∈ lw_g := by
      unfold wsV wsM at hw
      simp only [List.mem_append, List.mem_cons, List.not_mem_nil, or_false] at hw
      rcases hw with (rfl | rfl | rfl | rfl) | rfl | hw <;> assumption
    exact ⟨this, lw_good w this⟩
  have hB' := hB
  obtain ⟨hx, hb, hml, hown, hts, hfr, hlo, hE, hA, hcs, hss⟩ := hB'
  have cw := cwV (R := R) (own := own) (index := idx) (C := mi.1.cls) (bytes := mi.2.1) (maxL := mi.2.2.1) (ret := mi.2.2.2.1) (rm := rmd d) (mc := 0) (ms := 0) n hts hG rfl rfl rfl ⟨rfl, hdd⟩ ⟨hfr, by show 8 + (mi.2.2.1 + 11) + 64 * d ≤ R.locals; omega⟩
  unfold Rok at ho
  rw [hci] at ho
  obtain ⟨b', hb1, hb47, fs, hcell⟩ := ho
  cases hb1
  have hat : (wl ad cA h)[b]? = some (ad b, .inr (ci, fs.map (cvV ad))) := by rw [wl_at hb47, hcell]; rfl
  have hrun := va_runV (g := F0 m pc ls (stk.map (cvV ad))) (locs := locs) (cells := cells) (slots := slots) (below := below) (meth := meth) (e := e) (As := As.map (cvV ad)) (rest := st.map (cvV ad)) (b := ad b) (H := H) ⟨hx, hb, hml, hown, hts⟩ (hc l dC dI ad cA) cw ⟨fb_pc, va_recv hE.1 hW.1 hcl hat, fun U hU hWm => ⟨rfl, by rw [hU]; exact hW.1, hE.moved hWm.alike⟩⟩ rfl (by rw [List.length_map]; exact hn) hl.1 (by rw [hs]; simp [List.map_reverse, cvV]) (by
    have e0 : (F0 m pc ls (stk.map (cvV ad))).monitorRoom = 0 := rfl
    rw [e0, List.map_map]
    have : ((fun v : Value => v.category) ∘ cvV ad) = fun v => v.category := funext fun v => cv_cat ad v
    rw [this]
    omega) hd ⟨hcs, hss⟩
  exact x_cont hK hB hW hl hrun kk
theorem x_callS {mi : MI} {idx n : Nat} {As stk : List Value} {P : Option Value → Hp → Prop} (hv : SL own idx mi n) (hd : decode cc pc = .ok (.invokestatic idx, 3)) (hn : As.length = n) (hs : stk = As.reverse ++ st) (hr : (st.map fun v => v.category).sum ≤ 8)
    (hc : CC mi d As h P) (kk : ∀ (r : Option Value) (h' : Hp), P r h' → X K own cc nL (d + 1) h' (pc + 3) lv (r.toList ++ st)) : X K own cc nL (d + 1) h pc lv stk := by
  intro dC dI ad cA A p l e R s m args below meth c cells slots Q hK hB H locs ls hW hl
  obtain ⟨w1, w3, w4, w5, hdd, h40⟩ := hv
  have hG : GoodIn lw_g (va_wsS own idx mi.1 (wsM mi)) := by
    intro w hw
    have : w ∈ lw_g := by
      unfold va_wsS wsM at hw
      simp only [List.mem_append, List.mem_cons, List.not_mem_nil, or_false] at hw
      rcases hw with (rfl | rfl | rfl) | rfl | hw <;> assumption
    exact ⟨this, lw_good w this⟩
  have hB' := hB
  obtain ⟨hx, hb, hml, hown, hts, hfr, hlo, hE, hA, hcs, hss⟩ := hB'
  have cw := va_cwS (R := R) (own := own) (index := idx) (bytes := mi.2.1) (maxL := mi.2.2.1) (ret := mi.2.2.2.1) (rm := rmd d) (mc := 0) (ms := 0) n hts hG rfl rfl rfl hdd ⟨hfr, by show 8 + (mi.2.2.1 + 11) + 64 * d ≤ R.locals; omega⟩
  have hrun := va_runS (g := F0 m pc ls (stk.map (cvV ad))) (locs := locs) (cells := cells) (slots := slots) (below := below) (meth := meth) (e := e) (As := As.map (cvV ad)) (rest := st.map (cvV ad)) (H := H) ⟨hx, hb, hml, hown, hts⟩ (hc l dC dI ad cA) cw ⟨fb_pc, fun U hU hWm => ⟨rfl, by rw [hU]; exact hW.1, hE.moved hWm.alike⟩⟩ rfl (by rw [List.length_map]; exact hn) hl.1 (by rw [hs]; simp [List.map_reverse]) (by
    have e0 : (F0 m pc ls (stk.map (cvV ad))).monitorRoom = 0 := rfl
    rw [e0, List.map_map]
    have : ((fun v : Value => v.category) ∘ cvV ad) = fun v => v.category := funext fun v => cv_cat ad v
    rw [this]
    omega) hd ⟨hcs, hss⟩
  exact x_cont hK hB hW hl hrun kk
theorem x_vI {mi : MI} {idx n b : Nat} {As stk : List Value} (hv : VL own idx mi n) (hd : decode cc pc = .ok (.invokevirtual idx, 3)) (hn : As.length = n) (hs : stk = As.reverse ++ .ref b :: st) (hr : (st.map fun v => v.category).sum ≤ 8)
    (hc : CI mi d (.ref b :: As) h (fun x h' => X K own cc nL (d + 1) h' (pc + 3) lv (.int x :: st))) : X K own cc nL (d + 1) h pc lv stk := x_callV hv hd hn hs hr hc.1 hc.2 (fun r h' ⟨x, e, k⟩ => by subst e; exact k)
theorem x_sI {mi : MI} {idx n : Nat} {As stk : List Value} (hv : SL own idx mi n) (hd : decode cc pc = .ok (.invokestatic idx, 3)) (hn : As.length = n) (hs : stk = As.reverse ++ st) (hr : (st.map fun v => v.category).sum ≤ 8)
    (hc : CI mi d As h (fun x h' => X K own cc nL (d + 1) h' (pc + 3) lv (.int x :: st))) : X K own cc nL (d + 1) h pc lv stk := x_callS hv hd hn hs hr hc.2 (fun r h' ⟨x, e, k⟩ => by subst e; exact k)
theorem x_vJ {mi : MI} {idx n b : Nat} {As stk : List Value} (hv : VL own idx mi n) (hd : decode cc pc = .ok (.invokevirtual idx, 3)) (hn : As.length = n) (hs : stk = As.reverse ++ .ref b :: st) (hr : (st.map fun v => v.category).sum ≤ 8)
    (hc : CJ mi d (.ref b :: As) h (fun x h' => X K own cc nL (d + 1) h' (pc + 3) lv (.long x :: st))) : X K own cc nL (d + 1) h pc lv stk := x_callV hv hd hn hs hr hc.1 hc.2 (fun r h' ⟨x, e, k⟩ => by subst e; exact k)
theorem x_sJ {mi : MI} {idx n : Nat} {As stk : List Value} (hv : SL own idx mi n) (hd : decode cc pc = .ok (.invokestatic idx, 3)) (hn : As.length = n) (hs : stk = As.reverse ++ st) (hr : (st.map fun v => v.category).sum ≤ 8)
    (hc : CJ mi d As h (fun x h' => X K own cc nL (d + 1) h' (pc + 3) lv (.long x :: st))) : X K own cc nL (d + 1) h pc lv stk := x_callS hv hd hn hs hr hc.2 (fun r h' ⟨x, e, k⟩ => by subst e; exact k)
theorem x_vV {mi : MI} {idx n b : Nat} {As stk : List Value} (hv : VL own idx mi n) (hd : decode cc pc = .ok (.invokevirtual idx, 3)) (hn : As.length = n) (hs : stk = As.reverse ++ .ref b :: st) (hr : (st.map fun v => v.category).sum ≤ 8)
    (hc : CV mi d (.ref b :: As) h (fun h' => X K own cc nL (d + 1) h' (pc + 3) lv st)) : X K own cc nL (d + 1) h pc lv stk := x_callV hv hd hn hs hr hc.1 hc.2 (fun r h' ⟨e, k⟩ => by subst e; exact k)
theorem x_sV {mi : MI} {idx n : Nat} {As stk : List Value} (hv : SL own idx mi n) (hd : decode cc pc = .ok (.invokestatic idx, 3)) (hn : As.length = n) (hs : stk = As.reverse ++ st) (hr : (st.map fun v => v.category).sum ≤ 8)
    (hc : CV mi d As h (fun h' => X K own cc nL (d + 1) h' (pc + 3) lv st)) : X K own cc nL (d + 1) h pc lv stk := x_callS hv hd hn hs hr hc.2 (fun r h' ⟨e, k⟩ => by subst e; exact k)
theorem x_tsw {x : Int32} {n : Nat} {dflt lo hi : Int} {offs : Array Int} {len : Nat} (hd : decode cc pc = .ok (.tableswitch dflt lo hi offs, len)) (hlo : lo = 0) (hhi : hi + 1 = n ∧ n < 1000) (kin : ∀ j : Nat, j < n → x = nI j → ∃ (off : Int) (tgt : Nat), offs[j]? = some off ∧ (pc : Int) + off = (tgt : Int) ∧ X K own cc nL d h tgt lv st)
    (kout : (x < 0 ∨ nI n ≤ x) → ∃ tgt : Nat, (pc : Int) + dflt = (tgt : Int) ∧ X K own cc nL d h tgt lv st) : X K own cc nL d h pc lv (.int x :: st) := by
  intro dC dI ad cA A p l e R s m args below meth c cells slots Q hK hB H locs ls hW hl
  subst hlo
  rcases pk_ix x (n := n) (by omega) with hx | hx | ⟨j, hj, rfl⟩
  · obtain ⟨tgt, ht, k⟩ := kout (Or.inl hx)
    exact lv_tableOut hB.1 hB.2.1 hd (Or.inl (by have := Int32.lt_iff_toInt_lt.mp hx; simpa using this)) ht (k dC dI ad cA A p l e R s m args below meth c cells slots Q hK hB H locs ls hW hl)
  · obtain ⟨tgt, ht, k⟩ := kout (Or.inr hx)
    exact lv_tableOut hB.1 hB.2.1 hd (Or.inr (by
      have h1 := Int32.le_iff_toInt_le.mp hx
      rw [nI_toInt (by omega)] at h1
      omega)) ht (k dC dI ad cA A p l e R s m args below meth c cells slots Q hK hB H locs ls hW hl)
  · obtain ⟨off, tgt, ho, ht, k⟩ := kin j hj rfl
    have hj' : (nI j).toInt = (j : Int) := nI_toInt (by omega)
    exact lv_tableIn hB.1 hB.2.1 hd (by rw [hj']; omega) (by rw [hj']; omega) (by rw [hj']; simpa using ho) ht (k dC dI ad cA A p l e R s m args below meth c cells slots Q hK hB H locs ls hW hl)
theorem x_mmin {idx : Nat} {x y : Int32} (hw : Cond.methodLink own idx Lib.Math.min.name ∈ lw_g) (hw2 : Cond.static Lib.Math.min.name ∈ lw_g) (hw3 : Cond.initialized "java/lang/Math" ∈ lw_g) (hw4 : Cond.code Lib.Math.min.name Lib.Math.min.code 2 (some .int) ∈ lw_g) (hd : decode cc pc = .ok (.invokestatic idx, 3)) (hr : (st.map fun v => v.category).sum ≤ 8)
    (k : X K own cc nL (d + 1) h (pc + 3) lv (.int (if y < x then y else x) :: st)) : X K own cc nL (d + 1) h pc lv (.int y :: .int x :: st) := by
  intro dC dI ad cA A p l e R s m args below meth c cells slots Q hK hB H locs ls hW hl
  have hB' := hB
  obtain ⟨hx, hbb, hml, hown, hts, hfr, hlo, hE, hA, hcs, hss⟩ := hB'
  refine va_mmin hx hbb (hml.trans hl.1.symm) hown (hts _ hw) (hts _ hw2) (hts _ hw3) (hts _ hw4) (by omega) (by
    rw [List.map_map]
    have : ((fun v : Value => v.category) ∘ cvV ad) = fun v => v.category := funext fun v => cv_cat ad v
    rw [this]
    omega) hcs hss hd (k dC dI ad cA A p l e R s m args below meth c cells slots Q hK hB H locs ls hW hl)
theorem x_acopy {idx a b : Nat} {i j n : Int32} {h' : Hp} (hw : Cond.methodLink own idx arraycopyName ∈ lw_g) (hw2 : Cond.native arraycopyName ∈ lw_g) (hw3 : Cond.static arraycopyName ∈ lw_g) (hw4 : Cond.initialized "java/lang/System" ∈ lw_g) (hd : decode cc pc = .ok (.invokestatic idx, 3)) (hg : cpyI h a i b j n = some h')
    (k : X K own cc nL (d + 1) h' (pc + 3) lv []) : X K own cc nL (d + 1) h pc lv [.int n, .int j, .ref b, .int i, .ref a] := by
  intro dC dI ad cA A p l e R s m args below meth c cells slots Q hK hB H locs ls hW hl
  obtain ⟨na, f, nb, g, ha, hb, e1, e2, i1, i2, i3, i4, i5, rfl⟩ := cpyI_spec hg
  have hB' := hB
  obtain ⟨hx, hbb, hml, hown, hts, hfr, hlo, hE, hA, hcs, hss⟩ := hB'
  have hat : (wl ad cA h)[a]? = some (ad a, .inl (cA 0, na, .inl f)) := by rw [wl_at ha, e1]; rfl
  have hat2 : (wl ad cA h)[b]? = some (ad b, .inl (cA 0, nb, .inl g)) := by rw [wl_at hb, e2]; rfl
  refine va_copyi hx hbb (hml.trans hl.1.symm) hown (hts _ hw) (hts _ hw2) (hts _ hw3) (hts _ hw4) hE.1 hW.1 (hE.D hA h) hW.2 a b 0 0 hat hat2 rfl rfl rfl (Int32.not_lt.mpr i1) (Int32.not_lt.mpr i2) (Int32.not_lt.mpr i3) i4 i5 (fun _ _ => rfl) (by omega) (by
    have : nativeFrameWords "java/lang/System" "arraycopy" 5 ≤ 40 := by decide +kernel
    simp only [List.map_nil, List.sum_nil]
    omega) hd (fun H1 locs1 hP1 _ hS1 => ?_)
  have hW' : Wd dC dI ad cA A s (hu h b (iA nb (va_cpy f g i.toNatClampNeg j.toNatClampNeg n.toNatClampNeg))) H1 locs1 := ⟨by rw [← wl_set]; exact hP1, hS1⟩
  exact k dC dI ad cA A p l e R s m args below meth c cells slots Q hK hB H1 locs1 ls hW' hl
end XH

