
def lw_g : List Cond := lw_tbl.filter goodWord
theorem lw_gm {i : Nat} {w : Cond} (h : lw_tbl[i]? = some w) (g : goodWord w = true) : w ∈ lw_g := List.mem_filter.mpr ⟨List.mem_of_getElem? h, g⟩
abbrev Cl : Type := (Nat × vp_A) ⊕ (Nat × List Value)
abbrev Hp : Type := Nat → Cl
def cvV (ad : Nat → Nat) (v : Value) : Value := match v with
  | .ref k => .ref (ad k)
  | v => v
def cvA (ad : Nat → Nat) (a : vp_A) : vp_A := match a with
  | (n, .inr (.inr (.inr (.inr f)))) => (n, .inr (.inr (.inr (.inr (fun i => (f i).map ad)))))
  | a => a
def cvE (ad : Nat → Nat) (cA : Nat → ClassId) (c : Cl) : va_E := match c with
  | .inl (t, a) => .inl (cA t, cvA ad a)
  | .inr (ci, fs) => .inr (ci, fs.map (cvV ad))
def cvL (ad : Nat → Nat) (lv : List (Nat × Value)) : List (Nat × Value) := lv.map (fun q => (q.1, cvV ad q.2))
def wl (ad : Nat → Nat) (cA : Nat → ClassId) (h : Hp) : va_W := (List.range 47).map (fun k => (ad k, cvE ad cA (h k)))
theorem wl_at {ad : Nat → Nat} {cA : Nat → ClassId} {h : Hp} {k : Nat} (hk : k < 47) : (wl ad cA h)[k]? = some (ad k, cvE ad cA (h k)) := by
  simp [wl, hk]
def hu (h : Hp) (k : Nat) (c : Cl) : Hp := fun j => if j = k then c else h j
theorem hu_s {h : Hp} {k : Nat} {c : Cl} : hu h k c k = c := by simp [hu]
theorem hu_n {h : Hp} {k j : Nat} {c : Cl} (hj : j ≠ k) : hu h k c j = h j := by simp [hu, hj]
theorem wl_set {ad : Nat → Nat} {cA : Nat → ClassId} {h : Hp} {k : Nat} {c : Cl} : (wl ad cA h).set k (ad k, cvE ad cA c) = wl ad cA (hu h k c) := by
  apply List.ext_getElem?
  intro i
  rw [List.getElem?_set]
  by_cases hi : i < 47
  · rw [wl_at hi, wl_at hi]
    by_cases e : k = i
    · subst e
      have : k < (wl ad cA h).length := by simp [wl, hi]
      simp [this, hu]
    · have e' : i ≠ k := fun q => e q.symm
      simp [e, hu, e']
  · have h1 : (wl ad cA h)[i]? = none := by simp [wl]; omega
    have h2 : (wl ad cA (hu h k c))[i]? = none := by simp [wl]; omega
    rw [h1, h2]
    by_cases e : k = i
    · subst e
      have : ¬ k < (wl ad cA h).length := by simp [wl, hi]
      simp [this]
    · simp [e]
def tysOf (cA : Nat → ClassId) : List (ClassId × FieldType) := [(cA 0, .int), (cA 1, .long), (cA 2, .boolean), (cA 3, .object "EvenLines$Sheet"), (cA 4, .array .long)]
def EnvOk (dC : Nat → ClassId) (dI : Nat → Nat → Nat) (ad : Nat → Nat) (cA : Nat → ClassId) (s : State) : Prop :=
  va_K (dC, dI) vwCl (tysOf cA) s ∧ (∀ i j : Nat, i < 47 → j < 47 → ad i = ad j → i = j)
theorem EnvOk.D {dC : Nat → ClassId} {dI : Nat → Nat → Nat} {ad : Nat → Nat} {cA : Nat → ClassId} {s : State} {A : Nat → Prop} (h : EnvOk dC dI ad cA s) (hA : ∀ i, i < 47 → A (ad i)) (hp : Hp) : va_D A (wl ad cA hp) := by
  refine ⟨fun i j p q hi hj e => ?_, fun k q hk => ?_⟩
  · by_cases a : i < 47
    · by_cases b : j < 47
      · rw [wl_at a] at hi
        rw [wl_at b] at hj
        cases hi
        cases hj
        exact h.2 i j a b e
      · have : (wl ad cA hp)[j]? = none := by simp [wl]; omega
        rw [this] at hj
        cases hj
    · have : (wl ad cA hp)[i]? = none := by simp [wl]; omega
      rw [this] at hi
      cases hi
  · by_cases a : k < 47
    · rw [wl_at a] at hk
      cases hk
      exact hA k a
    · have : (wl ad cA hp)[k]? = none := by simp [wl]; omega
      rw [this] at hk
      cases hk
abbrev CxT : Type := (Nat → ClassId) → (Nat → Nat → Nat) → (Nat → Nat) → (Nat → ClassId) → (Nat → Prop) → Program → Launch → Env → Room → State → MethodId → Array Value → List Frame → Method → Code → Nat → Nat → (State → Prop) → Prop
def Wd (dC : Nat → ClassId) (dI : Nat → Nat → Nat) (ad : Nat → Nat) (cA : Nat → ClassId) (A : Nat → Prop) (s : State) (h : Hp) (H : Heap) (locs : List Loc) : Prop :=
  va_P (dC, dI) vwCl (wl ad cA h) H ∧ va_S A s.heap H locs
def Bs (own : String) (cc : ByteArray) (nL d : Nat) (dC : Nat → ClassId) (dI : Nat → Nat → Nat) (ad : Nat → Nat) (cA : Nat → ClassId) (A : Nat → Prop) (p : Program) (R : Room) (s : State) (m : MethodId) (args : Array Value) (c : Code) (cells slots : Nat) : Prop :=
  p.tables.exec = Jvm.exec ∧ c.code = cc ∧ c.maxLocals = nL ∧ s.vm.findClass own = some m.cls ∧ (∀ w ∈ lw_g, w.before args s = true) ∧ d ≤ R.frames ∧ 64 * d ≤ R.locals ∧ EnvOk dC dI ad cA s ∧ (∀ i, i < 47 → A (ad i)) ∧ cells ≤ R.cells ∧ slots ≤ R.slots
/-- from here on, with the heap h, the locals lv and the stack st, the activation ends as its context K wants -/
def X (K : CxT) (own : String) (cc : ByteArray) (nL d : Nat) (h : Hp) (pc : Nat) (lv : List (Nat × Value)) (st : List Value) : Prop :=
  ∀ (dC : Nat → ClassId) (dI : Nat → Nat → Nat) (ad : Nat → Nat) (cA : Nat → ClassId) (A : Nat → Prop) (p : Program) (l : Launch) (e : Env) (R : Room) (s : State) (m : MethodId) (args : Array Value) (below : List Frame) (meth : Method) (c : Code) (cells slots : Nat) (Q : State → Prop),
    K dC dI ad cA A p l e R s m args below meth c cells slots Q → Bs own cc nL d dC dI ad cA A p R s m args c cells slots →
    ∀ (H : Heap) (locs : List Loc) (ls : Array Slot), Wd dC dI ad cA A s h H locs → lv_has ls nL (cvL ad lv) →
      W p l e R s m args below meth c H locs cells slots Q (F0 m pc ls (st.map (cvV ad)))
theorem cvL_at {ad : Nat → Nat} {lv : List (Nat × Value)} {k i : Nat} {v : Value} (h : lv[k]? = some (i, v)) : (cvL ad lv)[k]? = some (i, cvV ad v) := by
  simp [cvL, h]
theorem cv_cat (ad : Nat → Nat) (v : Value) : (cvV ad v).category = v.category := by cases v <;> rfl
theorem cvL_fil1 (ad : Nat → Nat) (lv : List (Nat × Value)) (i : Nat) : (cvL ad lv).filter (fun q => !(q.1 == i) && !(q.1 + 1 == i && q.2.category == 2)) = cvL ad (lv.filter (fun q => !(q.1 == i) && !(q.1 + 1 == i && q.2.category == 2))) := by
  unfold cvL
  rw [List.filter_map]
  congr 1
  apply List.filter_congr
  intro q _
  simp [cv_cat]
theorem cvL_fil2 (ad : Nat → Nat) (lv : List (Nat × Value)) (i : Nat) : (cvL ad lv).filter (fun q => !(q.1 == i) && (!(q.1 == i + 1) && !(q.1 + 1 == i && q.2.category == 2))) = cvL ad (lv.filter (fun q => !(q.1 == i) && (!(q.1 == i + 1) && !(q.1 + 1 == i && q.2.category == 2)))) := by
  unfold cvL
  rw [List.filter_map]
  congr 1
  apply List.filter_congr
  intro q _
  simp [cv_cat]
section XR
variable {K : CxT} {own : String} {cc : ByteArray} {nL d : Nat} {h : Hp} {pc : Nat} {lv : List (Nat × Value)} {st : List Value}

theorem x_iconst {n : Int} {v : Int32} (hd : decode cc pc = .ok (.iconst n, 1)) (hv : Int32.ofInt n = v) (k : X K own cc nL d h (pc + 1) lv (.int v :: st)) : X K own cc nL d h pc lv st := by
  intro dC dI ad cA A p l e R s m args below meth c cells slots Q hK hB H locs ls hW hl
  exact lv_iconst hB.1 hB.2.1 hd hv (k dC dI ad cA A p l e R s m args below meth c cells slots Q hK hB H locs ls hW hl)
theorem x_bipush {n : Int} {v : Int32} (hd : decode cc pc = .ok (.bipush n, 2)) (hv : (Int8.ofInt n).toInt32 = v) (k : X K own cc nL d h (pc + 2) lv (.int v :: st)) : X K own cc nL d h pc lv st := by
  intro dC dI ad cA A p l e R s m args below meth c cells slots Q hK hB H locs ls hW hl
  exact lv_bipush hB.1 hB.2.1 hd hv (k dC dI ad cA A p l e R s m args below meth c cells slots Q hK hB H locs ls hW hl)
theorem x_sipush {n : Int} {v : Int32} (hd : decode cc pc = .ok (.sipush n, 3)) (hv : (Int16.ofInt n).toInt32 = v) (k : X K own cc nL d h (pc + 3) lv (.int v :: st)) : X K own cc nL d h pc lv st := by
  intro dC dI ad cA A p l e R s m args below meth c cells slots Q hK hB H locs ls hW hl
  exact lv_sipush hB.1 hB.2.1 hd hv (k dC dI ad cA A p l e R s m args below meth c cells slots Q hK hB H locs ls hW hl)
theorem x_lconst {n : Fin 2} {v : Int64} (hd : decode cc pc = .ok (.lconst n, 1)) (hv : Int64.ofNat (n : Nat) = v) (k : X K own cc nL d h (pc + 1) lv (.long v :: st)) : X K own cc nL d h pc lv st := by
  intro dC dI ad cA A p l e R s m args below meth c cells slots Q hK hB H locs ls hW hl
  exact lv_lconst hB.1 hB.2.1 hd hv (k dC dI ad cA A p l e R s m args below meth c cells slots Q hK hB H locs ls hW hl)
theorem x_ldc {index : Nat} {v : Int32} (hw : Cond.constant own index v ∈ lw_g) (hd : decode cc pc = .ok (.ldc index, 2)) (k : X K own cc nL d h (pc + 2) lv (.int v :: st)) : X K own cc nL d h pc lv st := by
  intro dC dI ad cA A p l e R s m args below meth c cells slots Q hK hB H locs ls hW hl
  exact lv_ldc hB.1 hB.2.1 hB.2.2.2.1 (hB.2.2.2.2.1 _ hw) hd (k dC dI ad cA A p l e R s m args below meth c cells slots Q hK hB H locs ls hW hl)
theorem x_ldc2 {index : Nat} {v : Int64} (hw : Cond.constantLong own index v ∈ lw_g) (hd : decode cc pc = .ok (.ldc2_w index, 3)) (k : X K own cc nL d h (pc + 3) lv (.long v :: st)) : X K own cc nL d h pc lv st := by
  intro dC dI ad cA A p l e R s m args below meth c cells slots Q hK hB H locs ls hW hl
  exact lv_ldc2 hB.1 hB.2.1 hB.2.2.2.1 (hB.2.2.2.2.1 _ hw) hd (k dC dI ad cA A p l e R s m args below meth c cells slots Q hK hB H locs ls hW hl)
theorem x_ldcw {index : Nat} {v : Int32} (hw : Cond.constant own index v ∈ lw_g) (hd : decode cc pc = .ok (.ldc_w index, 3)) (k : X K own cc nL d h (pc + 3) lv (.int v :: st)) : X K own cc nL d h pc lv st := by
  intro dC dI ad cA A p l e R s m args below meth c cells slots Q hK hB H locs ls hW hl
  exact lv_ldcw hB.1 hB.2.1 hB.2.2.2.1 (hB.2.2.2.2.1 _ hw) hd (k dC dI ad cA A p l e R s m args below meth c cells slots Q hK hB H locs ls hW hl)
theorem x_iload_n {j : Fin 4} {i : Nat} {x : Int32} (hd : decode cc pc = .ok (.iload_n j, 1)) (hi : (j : Nat) = i) (q : Nat) (hq : lv[q]? = some (i, .int x)) (k : X K own cc nL d h (pc + 1) lv (.int x :: st)) : X K own cc nL d h pc lv st := by
  intro dC dI ad cA A p l e R s m args below meth c cells slots Q hK hB H locs ls hW hl
  exact lv_iload_n hB.1 hB.2.1 hd hi (lv_at hl q (cvL_at hq)) (k dC dI ad cA A p l e R s m args below meth c cells slots Q hK hB H locs ls hW hl)
theorem x_iload {i : Nat} {x : Int32} (hd : decode cc pc = .ok (.iload i, 2)) (q : Nat) (hq : lv[q]? = some (i, .int x)) (k : X K own cc nL d h (pc + 2) lv (.int x :: st)) : X K own cc nL d h pc lv st := by
  intro dC dI ad cA A p l e R s m args below meth c cells slots Q hK hB H locs ls hW hl
  exact lv_iload hB.1 hB.2.1 hd (lv_at hl q (cvL_at hq)) (k dC dI ad cA A p l e R s m args below meth c cells slots Q hK hB H locs ls hW hl)
theorem x_lload_n {j : Fin 4} {i : Nat} {x : Int64} (hd : decode cc pc = .ok (.lload_n j, 1)) (hi : (j : Nat) = i) (q : Nat) (hq : lv[q]? = some (i, .long x)) (k : X K own cc nL d h (pc + 1) lv (.long x :: st)) : X K own cc nL d h pc lv st := by
  intro dC dI ad cA A p l e R s m args below meth c cells slots Q hK hB H locs ls hW hl
  exact lv_lload_n hB.1 hB.2.1 hd hi (lv_at hl q (cvL_at hq)) (k dC dI ad cA A p l e R s m args below meth c cells slots Q hK hB H locs ls hW hl)
theorem x_lload {i : Nat} {x : Int64} (hd : decode cc pc = .ok (.lload i, 2)) (q : Nat) (hq : lv[q]? = some (i, .long x)) (k : X K own cc nL d h (pc + 2) lv (.long x :: st)) : X K own cc nL d h pc lv st := by
  intro dC dI ad cA A p l e R s m args below meth c cells slots Q hK hB H locs ls hW hl
  exact lv_lload hB.1 hB.2.1 hd (lv_at hl q (cvL_at hq)) (k dC dI ad cA A p l e R s m args below meth c cells slots Q hK hB H locs ls hW hl)
theorem x_aload_n {j : Fin 4} {i : Nat} {x : Nat} (hd : decode cc pc = .ok (.aload_n j, 1)) (hi : (j : Nat) = i) (q : Nat) (hq : lv[q]? = some (i, .ref x)) (k : X K own cc nL d h (pc + 1) lv (.ref x :: st)) : X K own cc nL d h pc lv st := by
  intro dC dI ad cA A p l e R s m args below meth c cells slots Q hK hB H locs ls hW hl
  exact lv_aload_n hB.1 hB.2.1 hd hi (lv_at hl q (cvL_at hq)) (k dC dI ad cA A p l e R s m args below meth c cells slots Q hK hB H locs ls hW hl)
theorem x_aload {i : Nat} {x : Nat} (hd : decode cc pc = .ok (.aload i, 2)) (q : Nat) (hq : lv[q]? = some (i, .ref x)) (k : X K own cc nL d h (pc + 2) lv (.ref x :: st)) : X K own cc nL d h pc lv st := by
  intro dC dI ad cA A p l e R s m args below meth c cells slots Q hK hB H locs ls hW hl
  exact lv_aload hB.1 hB.2.1 hd (lv_at hl q (cvL_at hq)) (k dC dI ad cA A p l e R s m args below meth c cells slots Q hK hB H locs ls hW hl)
theorem x_istore_n {j : Fin 4} {i : Nat} {x : Int32} (hd : decode cc pc = .ok (.istore_n j, 1)) (hi : (j : Nat) = i) (hn : i < nL) {lv' : List (Nat × Value)} (he : (i, Value.int x) :: lv.filter (fun q => !(q.1 == i) && !(q.1 + 1 == i && q.2.category == 2)) = lv') (k : X K own cc nL d h (pc + 1) lv' st) : X K own cc nL d h pc lv (.int x :: st) := by
  intro dC dI ad cA A p l e R s m args below meth c cells slots Q hK hB H locs ls hW hl
  exact lv_istore_n (lv' := cvL ad lv') hB.1 hB.2.1 hd hi hl hn (by rw [cvL_fil1, ← he]; rfl) (fun ls' hl' => k dC dI ad cA A p l e R s m args below meth c cells slots Q hK hB H locs ls' hW hl')
theorem x_istore {i : Nat} {x : Int32} (hd : decode cc pc = .ok (.istore i, 2)) (hn : i < nL) {lv' : List (Nat × Value)} (he : (i, Value.int x) :: lv.filter (fun q => !(q.1 == i) && !(q.1 + 1 == i && q.2.category == 2)) = lv') (k : X K own cc nL d h (pc + 2) lv' st) : X K own cc nL d h pc lv (.int x :: st) := by
  intro dC dI ad cA A p l e R s m args below meth c cells slots Q hK hB H locs ls hW hl
  exact lv_istore (lv' := cvL ad lv') hB.1 hB.2.1 hd hl hn (by rw [cvL_fil1, ← he]; rfl) (fun ls' hl' => k dC dI ad cA A p l e R s m args below meth c cells slots Q hK hB H locs ls' hW hl')
theorem x_lstore_n {j : Fin 4} {i : Nat} {x : Int64} (hd : decode cc pc = .ok (.lstore_n j, 1)) (hi : (j : Nat) = i) (hn : i + 1 < nL) {lv' : List (Nat × Value)} (he : (i, Value.long x) :: lv.filter (fun q => !(q.1 == i) && (!(q.1 == i + 1) && !(q.1 + 1 == i && q.2.category == 2))) = lv') (k : X K own cc nL d h (pc + 1) lv' st) : X K own cc nL d h pc lv (.long x :: st) := by
  intro dC dI ad cA A p l e R s m args below meth c cells slots Q hK hB H locs ls hW hl
  exact lv_lstore_n (lv' := cvL ad lv') hB.1 hB.2.1 hd hi hl hn (by rw [cvL_fil2, ← he]; rfl) (fun ls' hl' => k dC dI ad cA A p l e R s m args below meth c cells slots Q hK hB H locs ls' hW hl')
theorem x_lstore {i : Nat} {x : Int64} (hd : decode cc pc = .ok (.lstore i, 2)) (hn : i + 1 < nL) {lv' : List (Nat × Value)} (he : (i, Value.long x) :: lv.filter (fun q => !(q.1 == i) && (!(q.1 == i + 1) && !(q.1 + 1 == i && q.2.category == 2))) = lv') (k : X K own cc nL d h (pc + 2) lv' st) : X K own cc nL d h pc lv (.long x :: st) := by
  intro dC dI ad cA A p l e R s m args below meth c cells slots Q hK hB H locs ls hW hl
  exact lv_lstore (lv' := cvL ad lv') hB.1 hB.2.1 hd hl hn (by rw [cvL_fil2, ← he]; rfl) (fun ls' hl' => k dC dI ad cA A p l e R s m args below meth c cells slots Q hK hB H locs ls' hW hl')
theorem x_astore_n {j : Fin 4} {i : Nat} {x : Nat} (hd : decode cc pc = .ok (.astore_n j, 1)) (hi : (j : Nat) = i) (hn : i < nL) {lv' : List (Nat × Value)} (he : (i, Value.ref x) :: lv.filter (fun q => !(q.1 == i) && !(q.1 + 1 == i && q.2.category == 2)) = lv') (k : X K own cc nL d h (pc + 1) lv' st) : X K own cc nL d h pc lv (.ref x :: st) := by
  intro dC dI ad cA A p l e R s m args below meth c cells slots Q hK hB H locs ls hW hl
  exact lv_astore_n (lv' := cvL ad lv') hB.1 hB.2.1 hd hi hl hn (by rw [cvL_fil1, ← he]; rfl) (fun ls' hl' => k dC dI ad cA A p l e R s m args below meth c cells slots Q hK hB H locs ls' hW hl')
theorem x_astore {i : Nat} {x : Nat} (hd : decode cc pc = .ok (.astore i, 2)) (hn : i < nL) {lv' : List (Nat × Value)} (he : (i, Value.ref x) :: lv.filter (fun q => !(q.1 == i) && !(q.1 + 1 == i && q.2.category == 2)) = lv') (k : X K own cc nL d h (pc + 2) lv' st) : X K own cc nL d h pc lv (.ref x :: st) := by
  intro dC dI ad cA A p l e R s m args below meth c cells slots Q hK hB H locs ls hW hl
  exact lv_astore (lv' := cvL ad lv') hB.1 hB.2.1 hd hl hn (by rw [cvL_fil1, ← he]; rfl) (fun ls' hl' => k dC dI ad cA A p l e R s m args below meth c cells slots Q hK hB H locs ls' hW hl')
theorem x_iinc {i q : Nat} {n : Int} {x v : Int32} (hd : decode cc pc = .ok (.iinc i n, 3)) (hq : lv[q]? = some (i, .int x)) (hv : x + Int32.ofInt n = v) (hn : i < nL) {lv' : List (Nat × Value)} (he : (i, Value.int v) :: lv.filter (fun q => !(q.1 == i) && !(q.1 + 1 == i && q.2.category == 2)) = lv') (k : X K own cc nL d h (pc + 3) lv' st) : X K own cc nL d h pc lv st := by
  intro dC dI ad cA A p l e R s m args below meth c cells slots Q hK hB H locs ls hW hl
  exact lv_iinc (lv' := cvL ad lv') hB.1 hB.2.1 hd hl (cvL_at hq) hv hn (by rw [cvL_fil1, ← he]; rfl) (fun ls' hl' => k dC dI ad cA A p l e R s m args below meth c cells slots Q hK hB H locs ls' hW hl')
theorem x_perm (ks : List Nat) {lv' : List (Nat × Value)} (he : lv_pick lv ks = lv') (k : X K own cc nL d h pc lv' st) : X K own cc nL d h pc lv st := by
  intro dC dI ad cA A p l e R s m args below meth c cells slots Q hK hB H locs ls hW hl
  exact k dC dI ad cA A p l e R s m args below meth c cells slots Q hK hB H locs ls hW (lv_sub hl ks (by rw [← he]; simp [lv_pick, cvL, List.map_filterMap]))
def irem (x y : Int32) : Int32 := x - x / y * y
def ishl (x y : Int32) : Int32 := x <<< (y &&& 31)
def ishr (x y : Int32) : Int32 := x >>> (y &&& 31)
def iushr (x y : Int32) : Int32 := (x.toUInt32 >>> (y.toUInt32 &&& Int32.toUInt32 31)).toInt32
def lcmp (x y : Int64) : Int32 := lg_cmp x y
theorem x_iadd {x y : Int32} (hd : decode cc pc = .ok (.iadd, 1)) (k : X K own cc nL d h (pc + 1) lv (.int (x + y) :: st)) : X K own cc nL d h pc lv (.int y :: .int x :: st) := by
  intro dC dI ad cA A p l e R s m args below meth c cells slots Q hK hB H locs ls hW hl
  exact lv_iadd hB.1 hB.2.1 hd (k dC dI ad cA A p l e R s m args below meth c cells slots Q hK hB H locs ls hW hl)
theorem x_isub {x y : Int32} (hd : decode cc pc = .ok (.isub, 1)) (k : X K own cc nL d h (pc + 1) lv (.int (x - y) :: st)) : X K own cc nL d h pc lv (.int y :: .int x :: st) := by
  intro dC dI ad cA A p l e R s m args below meth c cells slots Q hK hB H locs ls hW hl
  exact lv_isub hB.1 hB.2.1 hd (k dC dI ad cA A p l e R s m args below meth c cells slots Q hK hB H locs ls hW hl)
theorem x_imul {x y : Int32} (hd : decode cc pc = .ok (.imul, 1)) (k : X K own cc nL d h (pc + 1) lv (.int (x * y) :: st)) : X K own cc nL d h pc lv (.int y :: .int x :: st) := by
  intro dC dI ad cA A p l e R s m args below meth c cells slots Q hK hB H locs ls hW hl
  exact lv_imul hB.1 hB.2.1 hd (k dC dI ad cA A p l e R s m args below meth c cells slots Q hK hB H locs ls hW hl)
theorem x_iand {x y : Int32} (hd : decode cc pc = .ok (.iand, 1)) (k : X K own cc nL d h (pc + 1) lv (.int (x &&& y) :: st)) : X K own cc nL d h pc lv (.int y :: .int x :: st) := by
  intro dC dI ad cA A p l e R s m args below meth c cells slots Q hK hB H locs ls hW hl
  exact lv_iand hB.1 hB.2.1 hd (k dC dI ad cA A p l e R s m args below meth c cells slots Q hK hB H locs ls hW hl)
theorem x_ior {x y : Int32} (hd : decode cc pc = .ok (.ior, 1)) (k : X K own cc nL d h (pc + 1) lv (.int (x ||| y) :: st)) : X K own cc nL d h pc lv (.int y :: .int x :: st) := by
  intro dC dI ad cA A p l e R s m args below meth c cells slots Q hK hB H locs ls hW hl
  exact lv_ior hB.1 hB.2.1 hd (k dC dI ad cA A p l e R s m args below meth c cells slots Q hK hB H locs ls hW hl)
theorem x_ixor {x y : Int32} (hd : decode cc pc = .ok (.ixor, 1)) (k : X K own cc nL d h (pc + 1) lv (.int (x ^^^ y) :: st)) : X K own cc nL d h pc lv (.int y :: .int x :: st) := by
  intro dC dI ad cA A p l e R s m args below meth c cells slots Q hK hB H locs ls hW hl
  exact lv_ixor hB.1 hB.2.1 hd (k dC dI ad cA A p l e R s m args below meth c cells slots Q hK hB H locs ls hW hl)
theorem x_ishl {x y : Int32} (hd : decode cc pc = .ok (.ishl, 1)) (k : X K own cc nL d h (pc + 1) lv (.int (ishl x y) :: st)) : X K own cc nL d h pc lv (.int y :: .int x :: st) := by
  intro dC dI ad cA A p l e R s m args below meth c cells slots Q hK hB H locs ls hW hl
  exact lv_ishl hB.1 hB.2.1 hd (k dC dI ad cA A p l e R s m args below meth c cells slots Q hK hB H locs ls hW hl)
theorem x_ishr {x y : Int32} (hd : decode cc pc = .ok (.ishr, 1)) (k : X K own cc nL d h (pc + 1) lv (.int (ishr x y) :: st)) : X K own cc nL d h pc lv (.int y :: .int x :: st) := by
  intro dC dI ad cA A p l e R s m args below meth c cells slots Q hK hB H locs ls hW hl
  exact lv_ishr hB.1 hB.2.1 hd (k dC dI ad cA A p l e R s m args below meth c cells slots Q hK hB H locs ls hW hl)
theorem x_idiv {x y : Int32} (hd : decode cc pc = .ok (.idiv, 1)) (hne : ¬ y = 0) (k : X K own cc nL d h (pc + 1) lv (.int (x / y) :: st)) : X K own cc nL d h pc lv (.int y :: .int x :: st) := by
  intro dC dI ad cA A p l e R s m args below meth c cells slots Q hK hB H locs ls hW hl
  exact lv_idiv hB.1 hB.2.1 hd hne (k dC dI ad cA A p l e R s m args below meth c cells slots Q hK hB H locs ls hW hl)
theorem x_irem {x y : Int32} (hd : decode cc pc = .ok (.irem, 1)) (hne : ¬ y = 0) (k : X K own cc nL d h (pc + 1) lv (.int (irem x y) :: st)) : X K own cc nL d h pc lv (.int y :: .int x :: st) := by
  intro dC dI ad cA A p l e R s m args below meth c cells slots Q hK hB H locs ls hW hl
  exact lv_irem hB.1 hB.2.1 hd hne (k dC dI ad cA A p l e R s m args below meth c cells slots Q hK hB H locs ls hW hl)
theorem x_ladd {x y : Int64} (hd : decode cc pc = .ok (.ladd, 1)) (k : X K own cc nL d h (pc + 1) lv (.long (x + y) :: st)) : X K own cc nL d h pc lv (.long y :: .long x :: st) := by
  intro dC dI ad cA A p l e R s m args below meth c cells slots Q hK hB H locs ls hW hl
  exact lv_ladd hB.1 hB.2.1 hd (k dC dI ad cA A p l e R s m args below meth c cells slots Q hK hB H locs ls hW hl)
theorem x_lsub {x y : Int64} (hd : decode cc pc = .ok (.lsub, 1)) (k : X K own cc nL d h (pc + 1) lv (.long (x - y) :: st)) : X K own cc nL d h pc lv (.long y :: .long x :: st) := by
  intro dC dI ad cA A p l e R s m args below meth c cells slots Q hK hB H locs ls hW hl
  exact lv_lsub hB.1 hB.2.1 hd (k dC dI ad cA A p l e R s m args below meth c cells slots Q hK hB H locs ls hW hl)
theorem x_lmul {x y : Int64} (hd : decode cc pc = .ok (.lmul, 1)) (k : X K own cc nL d h (pc + 1) lv (.long (x * y) :: st)) : X K own cc nL d h pc lv (.long y :: .long x :: st) := by
  intro dC dI ad cA A p l e R s m args below meth c cells slots Q hK hB H locs ls hW hl
  exact lv_lmul hB.1 hB.2.1 hd (k dC dI ad cA A p l e R s m args below meth c cells slots Q hK hB H locs ls hW hl)
theorem x_ldiv {x y : Int64} (hd : decode cc pc = .ok (.ldiv, 1)) (hne : ¬ y = 0) (k : X K own cc nL d h (pc + 1) lv (.long (x / y) :: st)) : X K own cc nL d h pc lv (.long y :: .long x :: st) := by
  intro dC dI ad cA A p l e R s m args below meth c cells slots Q hK hB H locs ls hW hl
  exact lv_ldiv hB.1 hB.2.1 hd hne (k dC dI ad cA A p l e R s m args below meth c cells slots Q hK hB H locs ls hW hl)
theorem x_iushr {x y : Int32} (hd : decode cc pc = .ok (.iushr, 1)) (k : X K own cc nL d h (pc + 1) lv (.int (iushr x y) :: st)) : X K own cc nL d h pc lv (.int y :: .int x :: st) := by
  intro dC dI ad cA A p l e R s m args below meth c cells slots Q hK hB H locs ls hW hl
  exact lv_iushr hB.1 hB.2.1 hd rfl (k dC dI ad cA A p l e R s m args below meth c cells slots Q hK hB H locs ls hW hl)
theorem x_lcmp {x y : Int64} (hd : decode cc pc = .ok (.lcmp, 1)) (k : X K own cc nL d h (pc + 1) lv (.int (lcmp x y) :: st)) : X K own cc nL d h pc lv (.long y :: .long x :: st) := by
  intro dC dI ad cA A p l e R s m args below meth c cells slots Q hK hB H locs ls hW hl
  exact W.lcmp hB.1 hB.2.1 hd (k dC dI ad cA A p l e R s m args below meth c cells slots Q hK hB H locs ls hW hl)
theorem x_ineg {x : Int32} (hd : decode cc pc = .ok (.ineg, 1)) (k : X K own cc nL d h (pc + 1) lv (.int (-x) :: st)) : X K own cc nL d h pc lv (.int x :: st) := by
  intro dC dI ad cA A p l e R s m args below meth c cells slots Q hK hB H locs ls hW hl
  exact lv_ineg hB.1 hB.2.1 hd (k dC dI ad cA A p l e R s m args below meth c cells slots Q hK hB H locs ls hW hl)
theorem x_lneg {x : Int64} (hd : decode cc pc = .ok (.lneg, 1)) (k : X K own cc nL d h (pc + 1) lv (.long (-x) :: st)) : X K own cc nL d h pc lv (.long x :: st) := by
  intro dC dI ad cA A p l e R s m args below meth c cells slots Q hK hB H locs ls hW hl
  exact lv_lneg hB.1 hB.2.1 hd (k dC dI ad cA A p l e R s m args below meth c cells slots Q hK hB H locs ls hW hl)
theorem x_i2l {x : Int32} (hd : decode cc pc = .ok (.i2l, 1)) (k : X K own cc nL d h (pc + 1) lv (.long (x.toInt64) :: st)) : X K own cc nL d h pc lv (.int x :: st) := by
  intro dC dI ad cA A p l e R s m args below meth c cells slots Q hK hB H locs ls hW hl
  exact lv_i2l hB.1 hB.2.1 hd rfl (k dC dI ad cA A p l e R s m args below meth c cells slots Q hK hB H locs ls hW hl)
theorem x_i2b {x : Int32} (hd : decode cc pc = .ok (.i2b, 1)) (k : X K own cc nL d h (pc + 1) lv (.int (x.toInt8.toInt32) :: st)) : X K own cc nL d h pc lv (.int x :: st) := by
  intro dC dI ad cA A p l e R s m args below meth c cells slots Q hK hB H locs ls hW hl
  exact lv_i2b hB.1 hB.2.1 hd rfl (k dC dI ad cA A p l e R s m args below meth c cells slots Q hK hB H locs ls hW hl)
theorem x_i2s {x : Int32} (hd : decode cc pc = .ok (.i2s, 1)) (k : X K own cc nL d h (pc + 1) lv (.int (x.toInt16.toInt32) :: st)) : X K own cc nL d h pc lv (.int x :: st) := by
  intro dC dI ad cA A p l e R s m args below meth c cells slots Q hK hB H locs ls hW hl
  exact lv_i2s hB.1 hB.2.1 hd rfl (k dC dI ad cA A p l e R s m args below meth c cells slots Q hK hB H locs ls hW hl)
theorem x_dup {v : Value} (hd : decode cc pc = .ok (.dup, 1)) (hv : v.category = 1) (k : X K own cc nL d h (pc + 1) lv (v :: v :: st)) : X K own cc nL d h pc lv (v :: st) := by
  intro dC dI ad cA A p l e R s m args below meth c cells slots Q hK hB H locs ls hW hl
  exact lv_dup hB.1 hB.2.1 hd (by rw [cv_cat]; exact hv) (k dC dI ad cA A p l e R s m args below meth c cells slots Q hK hB H locs ls hW hl)
theorem x_pop {v : Value} (hd : decode cc pc = .ok (.pop, 1)) (hv : v.category = 1) (k : X K own cc nL d h (pc + 1) lv st) : X K own cc nL d h pc lv (v :: st) := by
  intro dC dI ad cA A p l e R s m args below meth c cells slots Q hK hB H locs ls hW hl
  exact lv_pop hB.1 hB.2.1 hd (by rw [cv_cat]; exact hv) (k dC dI ad cA A p l e R s m args below meth c cells slots Q hK hB H locs ls hW hl)
theorem x_dup2 {v u : Value} (hd : decode cc pc = .ok (.dup2, 1)) (hv : v.category = 1) (hu : u.category = 1) (k : X K own cc nL d h (pc + 1) lv (v :: u :: v :: u :: st)) : X K own cc nL d h pc lv (v :: u :: st) := by
  intro dC dI ad cA A p l e R s m args below meth c cells slots Q hK hB H locs ls hW hl
  exact lv_dup2_11 hB.1 hB.2.1 hd (by rw [cv_cat]; exact hv) (by rw [cv_cat]; exact hu) (k dC dI ad cA A p l e R s m args below meth c cells slots Q hK hB H locs ls hW hl)
theorem x_if_eq {x : Int32} {off : Int} {tgt : Nat} (hd : decode cc pc = .ok (.ifCond .eq off, 3)) (ht : (pc : Int) + off = (tgt : Int)) (kt : x = 0 → X K own cc nL d h tgt lv st) (kf : ¬ x = 0 → X K own cc nL d h (pc + 3) lv st) : X K own cc nL d h pc lv (.int x :: st) := by
  intro dC dI ad cA A p l e R s m args below meth c cells slots Q hK hB H locs ls hW hl
  exact lv_if_eq hB.1 hB.2.1 hd ht (fun q => kt q dC dI ad cA A p l e R s m args below meth c cells slots Q hK hB H locs ls hW hl) (fun q => kf q dC dI ad cA A p l e R s m args below meth c cells slots Q hK hB H locs ls hW hl)
theorem x_icmp_eq {x y : Int32} {off : Int} {tgt : Nat} (hd : decode cc pc = .ok (.if_icmp .eq off, 3)) (ht : (pc : Int) + off = (tgt : Int)) (kt : x = y → X K own cc nL d h tgt lv st) (kf : ¬ x = y → X K own cc nL d h (pc + 3) lv st) : X K own cc nL d h pc lv (.int y :: .int x :: st) := by
  intro dC dI ad cA A p l e R s m args below meth c cells slots Q hK hB H locs ls hW hl
  exact lv_icmp_eq hB.1 hB.2.1 hd ht (fun q => kt q dC dI ad cA A p l e R s m args below meth c cells slots Q hK hB H locs ls hW hl) (fun q => kf q dC dI ad cA A p l e R s m args below meth c cells slots Q hK hB H locs ls hW hl)
theorem x_if_ne {x : Int32} {off : Int} {tgt : Nat} (hd : decode cc pc = .ok (.ifCond .ne off, 3)) (ht : (pc : Int) + off = (tgt : Int)) (kt : ¬ x = 0 → X K own cc nL d h tgt lv st) (kf : x = 0 → X K own cc nL d h (pc + 3) lv st) : X K own cc nL d h pc lv (.int x :: st) := by
  intro dC dI ad cA A p l e R s m args below meth c cells slots Q hK hB H locs ls hW hl
  exact lv_if_ne hB.1 hB.2.1 hd ht (fun q => kt q dC dI ad cA A p l e R s m args below meth c cells slots Q hK hB H locs ls hW hl) (fun q => kf q dC dI ad cA A p l e R s m args below meth c cells slots Q hK hB H locs ls hW hl)
theorem x_icmp_ne {x y : Int32} {off : Int} {tgt : Nat} (hd : decode cc pc = .ok (.if_icmp .ne off, 3)) (ht : (pc : Int) + off = (tgt : Int)) (kt : ¬ x = y → X K own cc nL d h tgt lv st) (kf : x = y → X K own cc nL d h (pc + 3) lv st) : X K own cc nL d h pc lv (.int y :: .int x :: st) := by
  intro dC dI ad cA A p l e R s m args below meth c cells slots Q hK hB H locs ls hW hl
  exact lv_icmp_ne hB.1 hB.2.1 hd ht (fun q => kt q dC dI ad cA A p l e R s m args below meth c cells slots Q hK hB H locs ls hW hl) (fun q => kf q dC dI ad cA A p l e R s m args below meth c cells slots Q hK hB H locs ls hW hl)
theorem x_if_lt {x : Int32} {off : Int} {tgt : Nat} (hd : decode cc pc = .ok (.ifCond .lt off, 3)) (ht : (pc : Int) + off = (tgt : Int)) (kt : x < 0 → X K own cc nL d h tgt lv st) (kf : ¬ x < 0 → X K own cc nL d h (pc + 3) lv st) : X K own cc nL d h pc lv (.int x :: st) := by
  intro dC dI ad cA A p l e R s m args below meth c cells slots Q hK hB H locs ls hW hl
  exact lv_if_lt hB.1 hB.2.1 hd ht (fun q => kt q dC dI ad cA A p l e R s m args below meth c cells slots Q hK hB H locs ls hW hl) (fun q => kf q dC dI ad cA A p l e R s m args below meth c cells slots Q hK hB H locs ls hW hl)
theorem x_icmp_lt {x y : Int32} {off : Int} {tgt : Nat} (hd : decode cc pc = .ok (.if_icmp .lt off, 3)) (ht : (pc : Int) + off = (tgt : Int)) (kt : x < y → X K own cc nL d h tgt lv st) (kf : ¬ x < y → X K own cc nL d h (pc + 3) lv st) : X K own cc nL d h pc lv (.int y :: .int x :: st) := by
  intro dC dI ad cA A p l e R s m args below meth c cells slots Q hK hB H locs ls hW hl
  exact lv_icmp_lt hB.1 hB.2.1 hd ht (fun q => kt q dC dI ad cA A p l e R s m args below meth c cells slots Q hK hB H locs ls hW hl) (fun q => kf q dC dI ad cA A p l e R s m args below meth c cells slots Q hK hB H locs ls hW hl)
theorem x_if_ge {x : Int32} {off : Int} {tgt : Nat} (hd : decode cc pc = .ok (.ifCond .ge off, 3)) (ht : (pc : Int) + off = (tgt : Int)) (kt : 0 ≤ x → X K own cc nL d h tgt lv st) (kf : ¬ 0 ≤ x → X K own cc nL d h (pc + 3) lv st) : X K own cc nL d h pc lv (.int x :: st) := by
  intro dC dI ad cA A p l e R s m args below meth c cells slots Q hK hB H locs ls hW hl
  exact lv_if_ge hB.1 hB.2.1 hd ht (fun q => kt q dC dI ad cA A p l e R s m args below meth c cells slots Q hK hB H locs ls hW hl) (fun q => kf q dC dI ad cA A p l e R s m args below meth c cells slots Q hK hB H locs ls hW hl)
theorem x_icmp_ge {x y : Int32} {off : Int} {tgt : Nat} (hd : decode cc pc = .ok (.if_icmp .ge off, 3)) (ht : (pc : Int) + off = (tgt : Int)) (kt : y ≤ x → X K own cc nL d h tgt lv st) (kf : ¬ y ≤ x → X K own cc nL d h (pc + 3) lv st) : X K own cc nL d h pc lv (.int y :: .int x :: st) := by
  intro dC dI ad cA A p l e R s m args below meth c cells slots Q hK hB H locs ls hW hl
  exact lv_icmp_ge hB.1 hB.2.1 hd ht (fun q => kt q dC dI ad cA A p l e R s m args below meth c cells slots Q hK hB H locs ls hW hl) (fun q => kf q dC dI ad cA A p l e R s m args below meth c cells slots Q hK hB H locs ls hW hl)
theorem x_if_gt {x : Int32} {off : Int} {tgt : Nat} (hd : decode cc pc = .ok (.ifCond .gt off, 3)) (ht : (pc : Int) + off = (tgt : Int)) (kt : 0 < x → X K own cc nL d h tgt lv st) (kf : ¬ 0 < x → X K own cc nL d h (pc + 3) lv st) : X K own cc nL d h pc lv (.int x :: st) := by
  intro dC dI ad cA A p l e R s m args below meth c cells slots Q hK hB H locs ls hW hl
  exact lv_if_gt hB.1 hB.2.1 hd ht (fun q => kt q dC dI ad cA A p l e R s m args below meth c cells slots Q hK hB H locs ls hW hl) (fun q => kf q dC dI ad cA A p l e R s m args below meth c cells slots Q hK hB H locs ls hW hl)
theorem x_icmp_gt {x y : Int32} {off : Int} {tgt : Nat} (hd : decode cc pc = .ok (.if_icmp .gt off, 3)) (ht : (pc : Int) + off = (tgt : Int)) (kt : y < x → X K own cc nL d h tgt lv st) (kf : ¬ y < x → X K own cc nL d h (pc + 3) lv st) : X K own cc nL d h pc lv (.int y :: .int x :: st) := by
  intro dC dI ad cA A p l e R s m args below meth c cells slots Q hK hB H locs ls hW hl
  exact lv_icmp_gt hB.1 hB.2.1 hd ht (fun q => kt q dC dI ad cA A p l e R s m args below meth c cells slots Q hK hB H locs ls hW hl) (fun q => kf q dC dI ad cA A p l e R s m args below meth c cells slots Q hK hB H locs ls hW hl)
theorem x_if_le {x : Int32} {off : Int} {tgt : Nat} (hd : decode cc pc = .ok (.ifCond .le off, 3)) (ht : (pc : Int) + off = (tgt : Int)) (kt : x ≤ 0 → X K own cc nL d h tgt lv st) (kf : ¬ x ≤ 0 → X K own cc nL d h (pc + 3) lv st) : X K own cc nL d h pc lv (.int x :: st) := by
  intro dC dI ad cA A p l e R s m args below meth c cells slots Q hK hB H locs ls hW hl
  exact lv_if_le hB.1 hB.2.1 hd ht (fun q => kt q dC dI ad cA A p l e R s m args below meth c cells slots Q hK hB H locs ls hW hl) (fun q => kf q dC dI ad cA A p l e R s m args below meth c cells slots Q hK hB H locs ls hW hl)
theorem x_icmp_le {x y : Int32} {off : Int} {tgt : Nat} (hd : decode cc pc = .ok (.if_icmp .le off, 3)) (ht : (pc : Int) + off = (tgt : Int)) (kt : x ≤ y → X K own cc nL d h tgt lv st) (kf : ¬ x ≤ y → X K own cc nL d h (pc + 3) lv st) : X K own cc nL d h pc lv (.int y :: .int x :: st) := by
  intro dC dI ad cA A p l e R s m args below meth c cells slots Q hK hB H locs ls hW hl
  exact lv_icmp_le hB.1 hB.2.1 hd ht (fun q => kt q dC dI ad cA A p l e R s m args below meth c cells slots Q hK hB H locs ls hW hl) (fun q => kf q dC dI ad cA A p l e R s m args below meth c cells slots Q hK hB H locs ls hW hl)
theorem x_goto {off : Int} {tgt : Nat} (hd : decode cc pc = .ok (.goto off, 3)) (ht : (pc : Int) + off = (tgt : Int)) (k : X K own cc nL d h tgt lv st) : X K own cc nL d h pc lv st := by
  intro dC dI ad cA A p l e R s m args below meth c cells slots Q hK hB H locs ls hW hl
  exact lv_goto hB.1 hB.2.1 hd ht (k dC dI ad cA A p l e R s m args below meth c cells slots Q hK hB H locs ls hW hl)
end XR
