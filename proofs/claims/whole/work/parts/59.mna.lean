/-! new long[N][M]: the machine's step over it (the fixed import has no row for multianewarray), and what the world is behind it -/
/-- an array cell as it is made -/
def mg_cell (c : ClassId) (M : Nat) (v : Value) : Cell := { cls := c, slots := Array.replicate M v, vm := .none }
/-- the outer array with its first i places filled: the inner ones lie behind it -/
def mg_out (c : ClassId) (N q : Nat) : Nat → Cell
  | 0 => mg_cell c N .null
  | i + 1 => (mg_out c N q i).setSlot i (.ref (q + 1 + i))
/-- the state with the outer array and i inner ones -/
def mg_st (s : State) (c cy : ClassId) (N M : Nat) (dv : Value) : Nat → State
  | 0 => s.pushCell (mg_cell c N .null)
  | i + 1 => ((mg_st s c cy N M dv i).pushCell (mg_cell cy M dv)).setCell s.heap.size (mg_out c N s.heap.size (i + 1))
theorem mg_out_is (c : ClassId) (N q i : Nat) : (mg_out c N q i).cls = c ∧ (mg_out c N q i).vm = .none ∧ (mg_out c N q i).slots.size = N := by
  induction i with
  | zero => exact ⟨rfl, rfl, by simp [mg_out, mg_cell]⟩
  | succ i ih => exact ⟨by simp [mg_out, Cell.setSlot, ih.1], by simp [mg_out, Cell.setSlot, ih.2.1], by simp [mg_out, Cell.setSlot, ih.2.2]⟩
theorem mg_st_is (s : State) (c cy : ClassId) (N M : Nat) (dv : Value) (i : Nat) : (mg_st s c cy N M dv i).heap.size = s.heap.size + 1 + i ∧ (mg_st s c cy N M dv i).heap[s.heap.size]? = some (mg_out c N s.heap.size i) ∧ (mg_st s c cy N M dv i).vm = s.vm ∧ (mg_st s c cy N M dv i).slotsUsed = s.slotsUsed + N + i * M := by
  induction i with
  | zero => exact ⟨by simp [mg_st], by simp [mg_st, mg_out], rfl, by simp [mg_st, mg_cell]⟩
  | succ i ih =>
    obtain ⟨a, b, d, u⟩ := ih
    have hlt : s.heap.size < (mg_st s c cy N M dv i).heap.size := by omega
    have hb : ((mg_st s c cy N M dv i).pushCell (mg_cell cy M dv)).heap[s.heap.size]? = some (mg_out c N s.heap.size i) := by rw [State.heap_pushCell_of_lt (h := hlt)]; exact b
    refine ⟨?_, State.heap_setCell_self hb, by simp [mg_st, d], ?_⟩
    · simp [mg_st, State.setCell, a]; omega
    · simp [mg_st, u, mg_cell, Nat.succ_mul]; omega
theorem mg_st_top (s : State) (f : JFrame) (c cy : ClassId) (N M : Nat) (dv : Value) (i : Nat) : mg_st (s.setTop f) c cy N M dv i = (mg_st s c cy N M dv i).setTop f := by
  induction i with
  | zero => rfl
  | succ i ih => simp only [mg_st, ih, State.heap_setTop, State.pushCell_setTop, State.setCell_setTop]
theorem mg_st_old (s : State) (c cy : ClassId) (N M : Nat) (dv : Value) {a : Addr} (ha : a < s.heap.size) (i : Nat) : (mg_st s c cy N M dv i).heap[a]? = s.heap[a]? := by
  induction i with
  | zero => exact State.heap_pushCell_of_lt _ _ ha
  | succ i ih =>
    have hlt : a < (mg_st s c cy N M dv i).heap.size := Nat.lt_of_lt_of_le ha (by rw [(mg_st_is s c cy N M dv i).1]; omega)
    show (((mg_st s c cy N M dv i).pushCell (mg_cell cy M dv)).setCell s.heap.size _).heap[a]? = _
    rw [State.heap_setCell_other (Nat.ne_of_gt ha), State.heap_pushCell_of_lt (h := hlt)]
    exact ih
theorem mg_st_row (s : State) (c cy : ClassId) (N M : Nat) (dv : Value) (i : Nat) : ∀ j, j < i → (mg_st s c cy N M dv i).heap[s.heap.size + 1 + j]? = some (mg_cell cy M dv) := by
  induction i with
  | zero => intro j h; exact absurd h (Nat.not_lt_zero _)
  | succ i ih =>
    intro j h
    have f1 := (mg_st_is s c cy N M dv i).1
    show (((mg_st s c cy N M dv i).pushCell (mg_cell cy M dv)).setCell s.heap.size _).heap[s.heap.size + 1 + j]? = _
    rw [State.heap_setCell_other (show s.heap.size ≠ s.heap.size + 1 + j by omega)]
    by_cases hj : j < i
    · have hlt : s.heap.size + 1 + j < (mg_st s c cy N M dv i).heap.size := by rw [f1]; omega
      rw [State.heap_pushCell_of_lt (h := hlt)]
      exact ih j hj
    · have e : j = i := by omega
      subst e
      rw [← f1]
      exact State.heap_pushCell_size _ _
theorem mg_out_v (c : ClassId) (N q i : Nat) : mg_out c N q i = arrV c N (fun j => va_rf (if j < i then some (q + 1 + j) else none)) := by
  induction i with
  | zero =>
    show ({ cls := c, slots := Array.replicate N .null, vm := .none } : Cell) = _
    rw [arrV_new]
    refine congrArg (arrV c N) (funext fun j => ?_)
    simp [va_rf]
  | succ i ih =>
    show (mg_out c N q i).setSlot i (.ref (q + 1 + i)) = _
    rw [ih, arrV_store]
    refine congrArg (arrV c N) (funext fun j => ?_)
    by_cases e : j = i
    · subst e
      simp [updV, va_rf]
    · by_cases h : j < i
      · simp [updV, e, h, Nat.lt_succ_of_lt h]
      · simp [updV, e, h, show ¬ j < i + 1 by omega]
section MGW
variable {E : CtlPost} {e : Env} {d : Bool} {acts : List Action} {s : State}
theorem mg_new {c comp : ClassId} {k : Class} {ty : FieldType} {len : Nat} {init : Value} (hk : s.vm.classes[c]? = some k) (hkind : k.kind = .array comp ty)
    (hl : ¬ len > e.platform.arrayLengthLimit) (hh : ¬ len * componentBytes ty > e.platform.maxHeapBytes) (hfit : fits ty init = true) (hdef : init.isDefault = true) {Q : Addr → Pre}
    (h1 : s.heap.size < e.platform.maxCells) (h2 : s.slotsUsed + len ≤ e.platform.maxSlots) (hq : Q s.heap.size d acts (s.pushCell (mg_cell c len init))) : wp (Jvm.newArray c len init) Q E e d acts s := by
  have hf : ∀ i v, (Array.replicate len init)[i]? = some v → s.fitsSlot c .none i v = true := by
    intro i v hv
    rw [Array.getElem?_replicate] at hv
    split at hv
    · cases hv
      simp [State.fitsSlot, State.slotType?, hk, hkind, hfit]
    · cases hv
  have ha : allocActs (Array.replicate len init) s.heap.size acts = acts := by
    have hall : ((Array.replicate len init).all (·.isDefault)) = true := by
      rw [Array.all_replicate]
      split <;> simp [hdef]
    unfold allocActs
    rw [if_pos hall]
  simp only [Jvm.newArray, Jvm.arrayFits, wp_bind', W.ask, W.ite, hl, if_false, wp_pure', W.theClass, hk, hkind, hh, W.alloc, W.stop, Option.some.injEq, exists_eq_left', Array.size_replicate, ha]
  rw [if_neg (by omega)]
  exact ⟨h1, h2, hf, hq⟩
theorem mg_make {c cy cc : ClassId} {k kc : Class} {n m : Int32} (hk : s.vm.classes[c]? = some k) (hkind : k.kind = .array cy (.array .long)) (hkc : s.vm.classes[cy]? = some kc) (hkindc : kc.kind = .array cc .long) (hn : ¬ n < 0) (hm : ¬ m < 0)
    (hl1 : ¬ n.toNatClampNeg > e.platform.arrayLengthLimit) (hh1 : ¬ n.toNatClampNeg * componentBytes (.array .long) > e.platform.maxHeapBytes) (hl2 : ¬ m.toNatClampNeg > e.platform.arrayLengthLimit) (hh2 : ¬ m.toNatClampNeg * componentBytes .long > e.platform.maxHeapBytes)
    (hc : s.heap.size + 1 + n.toNatClampNeg ≤ e.platform.maxCells) (hs : s.slotsUsed + n.toNatClampNeg + n.toNatClampNeg * m.toNatClampNeg ≤ e.platform.maxSlots)
    {Q : Addr → Pre} (hq : ∀ d' acts', Q s.heap.size d' acts' (mg_st s c cy n.toNatClampNeg m.toNatClampNeg (.long 0) n.toNatClampNeg)) : wp (multianewarray.make c [n, m]) Q E e d acts s := by
  have hfind : ([m].find? (· < 0)) = none := by simp [hm]
  rw [multianewarray.make]
  simp only [wp_bind', W.ite, hn, if_false, wp_pure', W.theClass, hk, hkind, Option.some.injEq, exists_eq_left']
  refine mg_new hk hkind hl1 hh1 rfl rfl (by omega) (by have := Nat.zero_le (n.toNatClampNeg * m.toNatClampNeg); omega) ?_
  simp only [hfind]
  rw [ite_self, wp_bind', Std.Legacy.Range.forIn_eq_forIn_range']
  have hsz : ([:n.toNatClampNeg] : Std.Legacy.Range).size = n.toNatClampNeg := by simp [Std.Legacy.Range.size]
  rw [hsz]
  show wp (forIn (List.range' 0 n.toNatClampNeg 1) PUnit.unit _) _ E e d acts _
  refine wp_forIn_inv (fun rest s' => ∃ i, i ≤ n.toNatClampNeg ∧ rest = List.range' i (n.toNatClampNeg - i) ∧ s' = mg_st s c cy n.toNatClampNeg m.toNatClampNeg (.long 0) i) _ _ ⟨0, Nat.zero_le _, rfl, rfl⟩ ?_ ?_
  · rintro x rest s' d' acts' Q' ⟨i, hi, hl, rfl⟩ hnext
    have hlt : i < n.toNatClampNeg := by
      rcases Nat.lt_or_ge i n.toNatClampNeg with h | h
      · exact h
      · rw [show n.toNatClampNeg - i = 0 by omega] at hl
        simp at hl
    rw [show n.toNatClampNeg - i = (n.toNatClampNeg - (i + 1)) + 1 by omega, List.range'_succ] at hl
    obtain ⟨rfl, hrest⟩ := List.cons.inj hl
    obtain ⟨f1, f2, f3, f4⟩ := mg_st_is s c cy n.toNatClampNeg m.toNatClampNeg (.long 0) x
    obtain ⟨o1, o2, o3⟩ := mg_out_is c n.toNatClampNeg s.heap.size x
    have hmul : x * m.toNatClampNeg + m.toNatClampNeg ≤ n.toNatClampNeg * m.toNatClampNeg := by
      have := Nat.mul_le_mul_right m.toNatClampNeg (show x + 1 ≤ n.toNatClampNeg from hlt)
      rw [Nat.succ_mul] at this
      exact this
    simp only [wp_bind']
    rw [multianewarray.make]
    simp only [wp_bind', W.ite, hm, if_false, wp_pure', W.theClass, f3, hkc, hkindc, Option.some.injEq, exists_eq_left']
    refine mg_new (by rw [f3]; exact hkc) hkindc hl2 hh2 rfl rfl (by rw [f1]; omega) (by rw [f4]; omega) ?_
    have hlt0 : s.heap.size < (mg_st s c cy n.toNatClampNeg m.toNatClampNeg (.long 0) x).heap.size := by rw [f1]; omega
    simp only [wp_bind', W.writeLoc, wp_pure']
    refine ⟨mg_out c n.toNatClampNeg s.heap.size x, by rw [State.heap_pushCell_of_lt (h := hlt0)]; exact f2, by rw [o2]; simp, by rw [o3]; exact hlt, ?_, hnext _ _ _ ⟨x + 1, hlt, hrest, ?_⟩⟩
    · rw [o1, o2]
      have hfr : ∀ a : Addr, fits (.array .long) (.ref a) = true := fun _ => rfl
      simp [State.fitsSlot, State.slotType?, f3, hk, hkind, hfr]
    · rw [f1]
      rfl
  · rintro s' d' acts' ⟨i, hi, hl, rfl⟩
    have hiN : i = n.toNatClampNeg := by
      rcases Nat.lt_or_ge i n.toNatClampNeg with h | h
      · rw [show n.toNatClampNeg - i = (n.toNatClampNeg - (i + 1)) + 1 by omega, List.range'_succ] at hl
        cases hl
      · omega
    subst hiN
    simp only [wp_pure']
    exact hq _ _
end MGW
/-- what the word 'arrayOver' says of an array of arrays -/
theorem mg_over {args : Array Value} {s : State} {t : FieldType} (h : (Cond.arrayOver (.array t)).before args s = true) :
    ∃ comp c k, s.vm.findClass (FieldType.array t).toString = some comp ∧ s.vm.classes[c]? = some k ∧ k.kind = .array comp (.array t) ∧ s.vm.findClass ("[" ++ (FieldType.array t).toString) = some c := by
  simp only [Cond.before, Cond.holds, Cond.value, beq_iff_eq] at h
  cases hc : s.vm.findClass (FieldType.array t).toString with
  | none => simp [hc] at h
  | some comp =>
    simp only [hc, Option.bind_some, Option.bind_eq_some_iff, Option.map_eq_some_iff] at h
    obtain ⟨c, hi, k, hk, hb⟩ := h
    obtain ⟨hlt, hp, -⟩ := Array.findIdx?_eq_some_iff_getElem.mp hi
    rw [(Array.getElem?_eq_some_iff.mp hk).2] at hp
    cases hkind : k.kind with
    | array component ty =>
      rw [hkind] at hb hp
      simp at hb hp
      exact ⟨comp, c, k, rfl, hk, by rw [hkind, hp, hb.1], hb.2⟩
    | _ => rw [hkind] at hb; simp at hb
section MGS
variable {p : Program} {l : Launch} {e : Env} {R : Room} {s : State} {m : MethodId} {args : Array Value} {below : List Frame} {meth : Method} {c : Code} {T : State} {locs : List Loc} {cells slots : Nat}
theorem mg_stand (X : Stand p l e R s m args below meth c T locs cells slots) (cA cy : ClassId) (N M : Nat) (dv : Value) (i : Nat) :
    Stand p l e R s m args below meth c (mg_st T cA cy N M dv i) (locs ++ (List.range i).map fun j => ⟨T.heap.size, j⟩) (cells + 1 + i) (slots + N + i * M) := by
  induction i with
  | zero =>
    have h := X.pushed (mg_cell cA N .null)
    have e0 : (mg_cell cA N .null).slots.size = N := by simp [mg_cell]
    rw [e0] at h
    simpa [mg_st] using h
  | succ i ih =>
    obtain ⟨f1, f2, f3, f4⟩ := mg_st_is T cA cy N M dv i
    have hlt0 : T.heap.size < (mg_st T cA cy N M dv i).heap.size := by rw [f1]; omega
    have hcell : ((mg_st T cA cy N M dv i).pushCell (mg_cell cy M dv)).heap[T.heap.size]? = some (mg_out cA N T.heap.size i) := by rw [State.heap_pushCell_of_lt (h := hlt0)]; exact f2
    have h := (ih.pushed (mg_cell cy M dv)).stored hcell i (.ref (T.heap.size + 1 + i))
    have e1 : (mg_cell cy M dv).slots.size = M := by simp [mg_cell]
    rw [e1] at h
    have e2 : (locs ++ (List.range (i + 1)).map fun j => (⟨T.heap.size, j⟩ : Loc)) = (locs ++ (List.range i).map fun j => (⟨T.heap.size, j⟩ : Loc)) ++ [⟨T.heap.size, i⟩] := by simp [List.range_succ, List.append_assoc]
    have e3 : slots + N + (i + 1) * M = slots + N + i * M + M := by rw [Nat.succ_mul]; omega
    rw [e2, e3]
    exact h
theorem mg_step (X : Stand p l e R s m args below meth c T locs cells slots) (hexec : p.tables.exec = Jvm.exec) {own : String} {index : Nat}
    (hown : s.vm.findClass own = some m.cls) (hclink : (Cond.classLink own index ("[" ++ (FieldType.array .long).toString)).before args s = true)
    (hover : (Cond.arrayOver (.array .long)).before args s = true) (harr : (Cond.arrayClass .long).before args s = true)
    {g : JFrame} (hg : g.method = m) (hdg : decode c.code g.pc = .ok (.multianewarray index 2, 4)) {n k : Int32} {rest : List Value} (hstack : g.stack = .int k :: .int n :: rest)
    (hn : ¬ n < 0) (hk : ¬ k < 0) (hb1 : n.toNatClampNeg * 4 ≤ 536870912) (hb2 : k.toNatClampNeg * 8 ≤ 536870912)
    (hcells : cells + (1 + n.toNatClampNeg) ≤ R.cells) (hslots : slots + (n.toNatClampNeg + n.toNatClampNeg * k.toNatClampNeg) ≤ R.slots) {cA cy : ClassId} (hcA : s.vm.findClass ("[" ++ (FieldType.array .long).toString) = some cA) (hcy : s.vm.findClass (FieldType.array .long).toString = some cy) :
    ∃ (vm₁ : Vm), Stand p l e R s m args below meth c (mg_st (T.setVm vm₁) cA cy n.toNatClampNeg k.toNatClampNeg (.long 0) n.toNatClampNeg) locs (cells + 1 + n.toNatClampNeg) (slots + n.toNatClampNeg + n.toNatClampNeg * k.toNatClampNeg) ∧
      ∀ target, Steps p.tables e below ((mg_st (T.setVm vm₁) cA cy n.toNatClampNeg k.toNatClampNeg (.long 0) n.toNatClampNeg).setTop { g with pc := g.pc + 4, stack := .ref T.heap.size :: rest }) target → Steps p.tables e below (T.setTop g) target := by
  subst hg
  have hpl : e.platform.magicAccessors = ({} : Platform).magicAccessors := by rw [X.admits.platform]
  obtain ⟨comp, cA', kA, hcomp, hkA, hkindA, hnameA⟩ := mg_over hover
  obtain ⟨comp', kC, cc, hcomp', hkC, hkindC⟩ := Cond.arrayClass_spec harr
  cases hcA.symm.trans hnameA
  cases hcy.symm.trans hcomp
  cases hcomp.symm.trans hcomp'
  obtain ⟨c0, hfc0, hcl⟩ := Cond.classLink_spec hown hclink e.platform hpl
  cases hcA.symm.trans hfc0
  obtain ⟨hg₁, hwarm₁, hready₁⟩ := State.classEntry (e := e) X.warmed hcl
  generalize T.vm.noted g.method.cls index (.cls cA) = vm₁ at hg₁ hwarm₁ hready₁
  have hal : s.vm.Alike vm₁ := hwarm₁.alike
  obtain ⟨kA₁, hkA₁, heA⟩ := hal.2.2 _ _ hkA
  obtain ⟨kC₁, hkC₁, heC⟩ := hal.2.2 _ _ hkC
  have X₁ := X.noted hwarm₁
  obtain ⟨hr1, hr2⟩ := X.roomAbove hcells hslots
  have XF := mg_stand X₁ cA cy n.toNatClampNeg k.toNatClampNeg (.long 0) n.toNatClampNeg
  refine ⟨vm₁, XF.dropFresh (fun x hx => ?_), fun target hrest => ?_⟩
  · obtain ⟨j, -, rfl⟩ := List.mem_map.mp hx
    exact X.heapGrown
  have hl1 : ¬ n.toNatClampNeg > e.platform.arrayLengthLimit := by rw [Launch.admits_arrayLengthLimit X.admits]; omega
  have hh1 : ¬ n.toNatClampNeg * componentBytes (.array .long) > e.platform.maxHeapBytes := by
    rw [Launch.admits_maxHeapBytes X.admits]
    show ¬ n.toNatClampNeg * 4 > 536870912
    omega
  have hl2 : ¬ k.toNatClampNeg > e.platform.arrayLengthLimit := by rw [Launch.admits_arrayLengthLimit X.admits]; omega
  have hh2 : ¬ k.toNatClampNeg * componentBytes .long > e.platform.maxHeapBytes := by
    rw [Launch.admits_maxHeapBytes X.admits]
    show ¬ k.toNatClampNeg * 8 > 536870912
    omega
  jvm_step X.here [hexec, hdg]
  simp only [multianewarray.sem, wp_bind', W.resolveClassAt_links (State.method?_setTop g X.here.top) hg₁]
  rw [W.popN, if_neg (by decide)]
  refine ⟨g, State.topJava?_setTop' (s := T.setVm vm₁) g X.here.top, [.int n, .int k], rest, rfl, hstack, ?_⟩
  simp only [List.mapM_cons, List.mapM_nil, wp_bind', wp_pure']
  refine mg_make (k := kA₁) (kc := kC₁) (cy := cy) (cc := cc) hkA₁ (by rw [heA]; exact hkindA) hkC₁ (by rw [heC]; exact hkindC) hn hk hl1 hh1 hl2 hh2 (by show T.heap.size + 1 + _ ≤ _; omega) (by show T.slotsUsed + _ + _ ≤ _; omega) (fun d' acts' => ?_)
  have eS : ((T.setTop g).setVm vm₁).setTop { g with stack := rest } = (T.setVm vm₁).setTop { g with stack := rest } := by
    show ((T.setVm vm₁).setTop g).setTop _ = _
    rw [State.setTop_setTop]
  rw [eS, mg_st_top]
  simp only [wp_bind', W.mark, W.pushRef, State.topJava?_setTop' _ XF.here.top, Option.some.injEq, exists_eq_left', State.setTop_setTop, State.heap_setTop]
  intro acts
  simp [jvm, XF.here.top]
  exact hrest
end MGS
