/-! new long[11][100]: the machine's step over it. What the heap is behind it is written down at once: the old cells, the row of references, its rows; so is every heap on the way -/
/-- the row of references when i rows hang in it: row j is the cell q + 1 + j -/
def gd_top (cA : ClassId) (q i : Nat) : Cell := arrV cA 11 (fun j => va_rf (if j < i then some (q + 1 + j) else none))
/-- a row: a hundred zeros -/
def gd_row (cy : ClassId) : Cell := arrV cy 100 (fun _ => .long 0)
/-- the heap with i rows -/
def gd_heap (cA cy : ClassId) (H : Heap) (i : Nat) : Heap := H ++ (#[gd_top cA H.size i] ++ Array.replicate i (gd_row cy))
/-- the state with that heap -/
def gd_st (cA cy : ClassId) (T : State) (i : Nat) : State := { T with heap := gd_heap cA cy T.heap i, slotsUsed := T.slotsUsed + (11 + i * 100) }
theorem gd_size (cA cy : ClassId) (H : Heap) (i : Nat) : (gd_heap cA cy H i).size = H.size + (1 + i) := by
  simp [gd_heap]
  omega
theorem gd_old {cA cy : ClassId} {H : Heap} {i a : Nat} (h : a < H.size) : (gd_heap cA cy H i)[a]? = H[a]? := Array.getElem?_append_left h
theorem gd_at_top (cA cy : ClassId) (H : Heap) (i : Nat) : (gd_heap cA cy H i)[H.size]? = some (gd_top cA H.size i) := by
  unfold gd_heap
  rw [Array.getElem?_append_right (Nat.le_refl _), Nat.sub_self, Array.getElem?_append_left (show 0 < #[gd_top cA H.size i].size from Nat.zero_lt_one)]
  rfl
theorem gd_at_row (cA cy : ClassId) (H : Heap) {i j : Nat} (h : j < i) : (gd_heap cA cy H i)[H.size + 1 + j]? = some (gd_row cy) := by
  have e : H.size + 1 + j - H.size = 1 + j := by omega
  simp [gd_heap, Array.getElem?_append, e, h, show ¬ H.size + 1 + j < H.size by omega]
/-- a row is hung in -/
theorem gd_hang (cA : ClassId) (q i : Nat) : (gd_top cA q i).setSlot i (.ref (q + 1 + i)) = gd_top cA q (i + 1) := by
  refine (arrV_store _ _ _ _ _).trans (congrArg (arrV cA 11) (funext fun j => ?_))
  rcases Nat.lt_trichotomy j i with h | h | h
  · simp [updV, va_rf, h, Nat.ne_of_lt h, Nat.lt_succ_of_lt h]
  · simp [updV, va_rf, h]
  · simp [updV, va_rf, Nat.ne_of_gt h, Nat.lt_asymm h, show ¬ j < i + 1 by omega]
/-- the heap with one row more -/
theorem gd_more (cA cy : ClassId) (H : Heap) (i : Nat) : ((gd_heap cA cy H i).push (gd_row cy)).setIfInBounds H.size (gd_top cA H.size (i + 1)) = gd_heap cA cy H (i + 1) := by
  apply Array.toList_inj.mp
  simp [gd_heap, List.replicate_succ', List.set_append]
theorem gd_first (cA cy : ClassId) (T : State) : T.pushCell { cls := cA, slots := Array.replicate 11 .null } = gd_st cA cy T 0 := by
  have e : ({ cls := cA, slots := Array.replicate 11 .null } : Cell) = gd_top cA T.heap.size 0 := (arrV_new cA 11 .null).trans (congrArg (arrV cA 11) (funext fun j => by simp [va_rf]))
  rw [e]
  simp [State.pushCell, gd_st, gd_heap, gd_top, arrV_size]
theorem gd_next (cA cy : ClassId) (T : State) (i : Nat) : ((gd_st cA cy T i).pushCell { cls := cy, slots := Array.replicate 100 (.long 0) }).setCell T.heap.size ((gd_top cA T.heap.size i).setSlot i (.ref (T.heap.size + 1 + i))) = gd_st cA cy T (i + 1) := by
  have e : ({ cls := cy, slots := Array.replicate 100 (.long 0) } : Cell) = gd_row cy := arrV_new cy 100 (.long 0)
  have n : (gd_row cy).slots.size = 100 := arrV_size _ _ _
  rw [e, gd_hang]
  show ({ T with heap := ((gd_heap cA cy T.heap i).push (gd_row cy)).setIfInBounds T.heap.size (gd_top cA T.heap.size (i + 1)), slotsUsed := T.slotsUsed + (11 + i * 100) + (gd_row cy).slots.size } : State) = _
  rw [gd_more, n]
  show _ = ({ T with heap := gd_heap cA cy T.heap (i + 1), slotsUsed := T.slotsUsed + (11 + (i + 1) * 100) } : State)
  rw [show T.slotsUsed + (11 + i * 100) + 100 = T.slotsUsed + (11 + (i + 1) * 100) by omega]
theorem gd_setTop (cA cy : ClassId) (T : State) (f : JFrame) (i : Nat) : gd_st cA cy (T.setTop f) i = (gd_st cA cy T i).setTop f := rfl
theorem gd_topJava (cA cy : ClassId) (T : State) (i : Nat) : (gd_st cA cy T i).topJava? = T.topJava? := rfl
/-- a method stands as it stood where only new cells have come -/
theorem gd_stand0 {p : Program} {l : Launch} {e : Env} {R : Room} {s : State} {m : MethodId} {args : Array Value} {below : List Frame} {meth : Method} {c : Code} {T : State} {locs : List Loc} {cells slots : Nat}
    (X : Stand p l e R s m args below meth c T locs cells slots) {H : Heap} {u a b : Nat} (h : T.sameButNew ({ T with heap := H, slotsUsed := u } : State) [] a b) : Stand p l e R s m args below meth c ({ T with heap := H, slotsUsed := u } : State) locs (cells + a) (slots + b) := by
  have h1 := X.moved (T₂ := ({ T with heap := H, slotsUsed := u } : State)) (X.here.setHeapUsed H u) X.tail rfl rfl (State.WarmedH.refl T) h
  rw [List.append_nil] at h1
  exact h1
/-- so it does behind the grid -/
theorem gd_stand {p : Program} {l : Launch} {e : Env} {R : Room} {s : State} {m : MethodId} {args : Array Value} {below : List Frame} {meth : Method} {c : Code} {T : State} {locs : List Loc} {cells slots : Nat}
    (X : Stand p l e R s m args below meth c T locs cells slots) (cA cy : ClassId) : Stand p l e R s m args below meth c (gd_st cA cy T 11) locs (cells + 12) (slots + 1111) := by
  obtain ⟨g0, hf⟩ := X.frames_eq
  obtain ⟨t, ht, -⟩ := State.frames_cons hf
  have hsum : (((gd_heap cA cy T.heap 11).toList.drop T.heap.size).map (·.slots.size)).sum = 1111 := by
    have h1 : (gd_heap cA cy T.heap 11).toList.drop T.heap.size = gd_top cA T.heap.size 11 :: List.replicate 11 (gd_row cy) := by
      simp [gd_heap, List.drop_append]
    rw [h1, List.map_cons, List.map_replicate, List.sum_cons]
    rw [show (gd_top cA T.heap.size 11).slots.size = 11 from arrV_size _ _ _, show (gd_row cy).slots.size = 100 from arrV_size _ _ _]
    rfl
  have same : T.sameButNew ({ T with heap := gd_heap cA cy T.heap 11, slotsUsed := T.slotsUsed + (11 + 11 * 100) } : State) [] 12 1111 := by
    refine ⟨?_, ?_, ?_, ?_, ?_, fun a w hw => ⟨w, ?_, rfl, rfl, fun _ _ => rfl⟩⟩
    · show _ = ({ T.setFrames T.frames with heap := gd_heap cA cy T.heap 11, slotsUsed := T.slotsUsed + (11 + 11 * 100) } : State)
      rw [State.setFrames_self ht]
    · show _ ≤ (gd_heap cA cy T.heap 11).size
      rw [gd_size]
      omega
    · show (gd_heap cA cy T.heap 11).size ≤ _
      rw [gd_size]
      omega
    · show T.slotsUsed + (11 + 11 * 100) = T.slotsUsed + (((gd_heap cA cy T.heap 11).toList.drop T.heap.size).map (·.slots.size)).sum
      rw [hsum]
    · show (((gd_heap cA cy T.heap 11).toList.drop T.heap.size).map (·.slots.size)).sum ≤ 1111
      rw [hsum]
      exact Nat.le_refl _
    · exact (gd_old (Array.getElem?_eq_some_iff.mp hw).1).trans hw
  exact gd_stand0 X same
section GD
variable {E : CtlPost} {e : Env}
/-- a loop that goes along a given row of states -/
theorem gd_loop {f : Nat → PUnit → Sem (ForInStep PUnit)} {S : Nat → State} {n : Nat} {Q : PUnit → Pre}
    (hf : ∀ i, i < n → ∀ (d : Bool) (acts : List Action) (Q1 : ForInStep PUnit → Pre), (∀ d1 acts1, Q1 (.yield PUnit.unit) d1 acts1 (S (i + 1))) → wp (f i PUnit.unit) Q1 E e d acts (S i))
    (hq : ∀ d acts, Q PUnit.unit d acts (S n)) (w : Nat) : ∀ (i : Nat) (d : Bool) (acts : List Action), i + w = n → wp (forIn (List.range' i w) PUnit.unit f) Q E e d acts (S i) := by
  induction w with
  | zero =>
    intro i d acts h
    cases (show i = n from h)
    simp only [List.range'_zero, List.forIn_nil, wp_pure']
    exact hq d acts
  | succ w ih =>
    intro i d acts h
    rw [List.range'_succ, List.forIn_cons, wp_bind']
    exact hf i (by omega) d acts _ (fun d1 acts1 => ih (i + 1) d1 acts1 (by omega))
variable {cA cy cz : ClassId} {k kc : Class} {d : Bool} {acts : List Action} {s : State}
/-- one row is made -/
theorem gd_make1 (hkc : s.vm.classes[cy]? = some kc) (hkindc : kc.kind = .array cz .long) (hl : ¬ 100 > e.platform.arrayLengthLimit) (hh : ¬ 800 > e.platform.maxHeapBytes)
    (hc : s.heap.size < e.platform.maxCells) (hs : s.slotsUsed + 100 ≤ e.platform.maxSlots) {Q : Addr → Pre} (hq : ∀ acts1, Q s.heap.size d acts1 (s.pushCell { cls := cy, slots := Array.replicate 100 (.long 0) })) :
    wp (multianewarray.make cy [100]) Q E e d acts s := by
  unfold multianewarray.make
  simp only [wp_bind', W.ite, if_neg (show ¬ (100 : Int32) < 0 by decide), wp_pure', W.theClass]
  refine ⟨kc, hkc, ?_⟩
  rw [hkindc]
  exact W.newArray_of hkc hkindc hl hh hc hs rfl hq
/-- all of it is made -/
theorem gd_make (hk : s.vm.classes[cA]? = some k) (hkind : k.kind = .array cy (.array .long)) (hkc : s.vm.classes[cy]? = some kc) (hkindc : kc.kind = .array cz .long) (hl : ¬ 100 > e.platform.arrayLengthLimit) (hh : ¬ 800 > e.platform.maxHeapBytes)
    (hc : s.heap.size + 12 ≤ e.platform.maxCells) (hs : s.slotsUsed + 1111 ≤ e.platform.maxSlots) {Q : Addr → Pre} (hq : ∀ d1 acts1, Q s.heap.size d1 acts1 (gd_st cA cy s 11)) :
    wp (multianewarray.make cA [11, 100]) Q E e d acts s := by
  unfold multianewarray.make
  simp only [wp_bind', W.ite, if_neg (show ¬ (11 : Int32) < 0 by decide), wp_pure', W.theClass]
  refine ⟨k, hk, ?_⟩
  rw [hkind]
  dsimp only
  rw [wp_bind']
  refine W.newArray_of (e := e) (howMany := 11) (init := .null) hk hkind (by omega) (by show ¬ 44 > _; omega) (by omega) (by omega) rfl (fun acts1 => ?_)
  rw [gd_first cA cy, W.ite, if_neg (show ¬ ((11 : Int32) == 0) = true by decide), wp_bind', Std.Legacy.Range.forIn_eq_forIn_range']
  refine gd_loop (S := gd_st cA cy s) (n := 11) (fun i hi d1 acts2 Q1 h1 => ?_) (fun d1 acts2 => ?_) 11 0 d acts1 rfl
  · have hz : (gd_st cA cy s i).heap.size = s.heap.size + (1 + i) := gd_size _ _ _ _
    have hu : (gd_st cA cy s i).slotsUsed = s.slotsUsed + (11 + i * 100) := rfl
    rw [wp_bind']
    refine gd_make1 (s := gd_st cA cy s i) hkc hkindc hl hh (by omega) (by omega) (fun acts3 => ?_)
    rw [wp_bind', W.writeLoc, hz, ← Nat.add_assoc]
    refine ⟨gd_top cA s.heap.size i, ?_, (fun h => by cases h), ?_, ?_, ?_⟩
    · exact (State.heap_pushCell_of_lt _ _ (show s.heap.size < (gd_st cA cy s i).heap.size by omega)).trans (gd_at_top cA cy s.heap i)
    · rw [show (gd_top cA s.heap.size i).slots.size = 11 from arrV_size _ _ _]
      exact hi
    · have hk1 : (gd_st cA cy s i).vm.classes[(gd_top cA s.heap.size i).cls]? = some k := hk
      have hv : (gd_top cA s.heap.size i).vm = .none := rfl
      simp [State.fitsSlot, State.slotType?, hk1, hv, hkind]
      rfl
    · rw [gd_next]
      exact h1 _ _
  · exact hq _ _
end GD
/-- what the word of arrays over arrays says: whose rows they are -/
theorem gd_over {args : Array Value} {s : State} (h : (Cond.arrayOver (.array .long)).before args s = true) :
    ∃ (cA cy : ClassId) (k : Class), s.vm.findClass ("[" ++ (FieldType.array .long).toString) = some cA ∧ s.vm.findClass (FieldType.array .long).toString = some cy ∧ s.vm.classes[cA]? = some k ∧ k.kind = .array cy (.array .long) := by
  have h1 := eq_of_beq h
  simp only [Cond.value, Option.bind_eq_some_iff, Option.map_eq_some_iff] at h1
  obtain ⟨cy, hy, cA, hi, k, hk, hb⟩ := h1
  have hc := Array.of_findIdx?_eq_some hi
  rw [hk] at hc
  split at hb
  · rename_i z ty hz
    simp only [hz, beq_iff_eq] at hc
    simp only [Bool.and_eq_true, decide_eq_true_eq] at hb
    exact ⟨cA, cy, k, hb.2, hy, hk, by rw [hz, hc, hb.1]⟩
  · cases hb
section GE
variable {p : Program} {l : Launch} {e : Env} {R : Room} {s : State} {m : MethodId} {args : Array Value} {below : List Frame} {meth : Method} {c : Code} {T : State} {locs : List Loc} {cells slots : Nat}
/-- the instruction: it finds the class, takes the two counts, makes the grid and pushes it -/
theorem gd_sem {E : CtlPost} {d : Bool} {acts : List Action} {cA cy cz : ClassId} {k kc : Class} {g : JFrame} {index : Nat} {rest : List Value} {vm1 : Vm} (ht : T.topJava?.isSome) (hst : g.stack = .int 100 :: .int 11 :: rest)
    (hres : (Jvm.resolveClass g.method.cls index).Gives e.toSetting T.vm (.ok cA) vm1) (hsz : vm1.classes.size ≤ T.vm.classes.size)
    (hk : vm1.classes[cA]? = some k) (hkind : k.kind = .array cy (.array .long)) (hkc : vm1.classes[cy]? = some kc) (hkindc : kc.kind = .array cz .long) (hl : ¬ 100 > e.platform.arrayLengthLimit) (hh : ¬ 800 > e.platform.maxHeapBytes)
    (hc : T.heap.size + 12 ≤ e.platform.maxCells) (hs : T.slotsUsed + 1111 ≤ e.platform.maxSlots) {Q : Unit → Pre}
    (hq : ∀ acts1, Q () true acts1 ((gd_st cA cy (T.setVm vm1) 11).setTop { g with stack := .ref T.heap.size :: rest })) : wp (multianewarray.sem index 2) Q E e d acts (T.setTop g) := by
  unfold multianewarray.sem
  rw [wp_bind', W.resolveClassAt_links (State.method?_setTop g ht) hres hsz, wp_bind']
  show wp (Jvm.popN 2) _ E e d acts ((T.setVm vm1).setTop g)
  refine (popN_top (s := T.setVm vm1) (f := g) (args := [.int 11, .int 100]) (rest := rest) ht hst).mpr ?_
  simp only [List.mapM_cons, List.mapM_nil, wp_bind', wp_pure']
  refine gd_make (s := (T.setVm vm1).setTop { g with stack := rest }) hk hkind hkc hkindc hl hh hc hs (fun d1 acts1 => ?_)
  rw [gd_setTop]
  rw [wp_bind', W.mark, W.pushRef]
  refine ⟨{ g with stack := rest }, State.topJava?_setTop' (s := gd_st cA cy (T.setVm vm1) 11) _ (by rw [gd_topJava]; exact ht), ?_⟩
  rw [State.setTop_setTop]
  exact hq acts1
/-- and the walk goes on behind it -/
theorem gd_step (X : Stand p l e R s m args below meth c T locs cells slots) (hx : p.tables.exec = Jvm.exec) {own : String} {index : Nat} (hown : s.vm.findClass own = some m.cls)
    (hlink : (Cond.classLink own index ("[" ++ (FieldType.array .long).toString)).before args s = true) (hover : (Cond.arrayOver (.array .long)).before args s = true) (harr : (Cond.arrayClass .long).before args s = true)
    {g : JFrame} (hg : g.method = m) (hdg : decode c.code g.pc = .ok (.multianewarray index 2, 4)) {rest : List Value} (hst : g.stack = .int 100 :: .int 11 :: rest) (hcells : cells + 12 ≤ R.cells) (hslots : slots + 1111 ≤ R.slots) :
    ∃ (vm1 : Vm) (cA cy : ClassId), s.vm.findClass ("[" ++ (FieldType.array .long).toString) = some cA ∧ s.vm.findClass (FieldType.array .long).toString = some cy ∧ Stand p l e R s m args below meth c (gd_st cA cy (T.setVm vm1) 11) locs (cells + 12) (slots + 1111) ∧
      ∀ t, Steps p.tables e below ((gd_st cA cy (T.setVm vm1) 11).setTop { g with pc := g.pc + 4, stack := .ref T.heap.size :: rest }) t → Steps p.tables e below (T.setTop g) t := by
  subst hg
  obtain ⟨cA, cy, k, fA, fy, hk, hkind⟩ := gd_over hover
  obtain ⟨cy2, kc, cz, fy2, hkc, hkindc⟩ := Cond.arrayClass_spec harr
  cases fy.symm.trans fy2
  obtain ⟨c0, f0, hcl⟩ := Cond.classLink_spec hown hlink e.platform (by rw [X.admits.platform])
  cases fA.symm.trans f0
  obtain ⟨hres, hwarm, -⟩ := State.classEntry (e := e) X.warmed hcl
  obtain ⟨k1, hk1, ek⟩ := hwarm.alike.2.2 _ _ hk
  obtain ⟨kc1, hkc1, ekc⟩ := hwarm.alike.2.2 _ _ hkc
  obtain ⟨r1, r2⟩ := X.roomAbove hcells hslots
  have l1 : ¬ 100 > e.platform.arrayLengthLimit := by
    rw [Launch.admits_arrayLengthLimit X.admits]
    omega
  have l2 : ¬ 800 > e.platform.maxHeapBytes := by
    rw [Launch.admits_maxHeapBytes X.admits]
    omega
  have XF := gd_stand (X.noted hwarm) cA cy
  refine ⟨_, cA, cy, fA, fy, XF, fun t ht => ?_⟩
  jvm_step X.here [hx, hdg]
  refine gd_sem X.here.top hst hres (by no_record) hk1 (by rw [ek]; exact hkind) hkc1 (by rw [ekc]; exact hkindc) l1 l2 r1 r2 (fun acts1 => ?_)
  intro acts2
  simp [jvm, XF.here.top]
  exact ht
end GE
