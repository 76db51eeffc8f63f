/-! ===== numberings, and the numbers that they give ===== -/
def Pm (n : Nat) (q : Nat → Nat) : Prop := (∀ i, i < n → q i < n) ∧ ∀ i j, i < n → j < n → q i = q j → i = j
def cc (g : Nat → Nat → Bool) (q : Nat → Nat) (i j : Nat) : Bool := (g (q i) (q j) ^^ g (q 0) (q i)) ^^ g (q 0) (q j)
/-- the bits of the pairs above place pl -/
def Pc (n : Nat) (g : Nat → Nat → Bool) (q : Nat → Nat) (pl : Nat) (z : Int32) : Prop := ∀ k, k < 32 → (bt z k = true ↔ ∃ i j, pl < i ∧ i < j ∧ j < n ∧ bop i j = k ∧ cc g q i j = true)
theorem Pc.uniq {n pl : Nat} {g : Nat → Nat → Bool} {q : Nat → Nat} {y z : Int32} (h1 : Pc n g q pl y) (h2 : Pc n g q pl z) : y = z := by
  refine b_ext (fun k hk => ?_)
  have := (h1 k hk).trans (h2 k hk).symm
  cases hy : bt y k <;> cases hz : bt z k <;> simp [hy, hz] at this ⊢
theorem Pc.cong {n pl : Nat} {g : Nat → Nat → Bool} {q q' : Nat → Nat} {z : Int32} (h : Pc n g q pl z) (h0 : 0 < n → q' 0 = q 0) (e : ∀ i, i < n → pl < i → q' i = q i) : Pc n g q' pl z := fun k hk => (h k hk).trans (by
  constructor
  · rintro ⟨i, j, h1, h2, h3, h4, h5⟩
    refine ⟨i, j, h1, h2, h3, h4, ?_⟩
    unfold cc at h5 ⊢
    rw [h0 (by omega), e i (by omega) h1, e j h3 (by omega)]; exact h5
  · rintro ⟨i, j, h1, h2, h3, h4, h5⟩
    refine ⟨i, j, h1, h2, h3, h4, ?_⟩
    unfold cc at h5 ⊢
    rw [← h0 (by omega), ← e i (by omega) h1, ← e j h3 (by omega)]; exact h5)
theorem uI_bit (x : Int32) (k : Nat) : (uI x).testBit k = bt x k := by
  by_cases hk : k < 32
  · have h1 : bt (nI (uI x)) k = (uI x).testBit k := bt_nI hk
    rw [← uI_e x] at h1
    exact h1.symm
  · rw [b_big (by omega)]
    exact Nat.testBit_lt_two_pow (Nat.lt_of_lt_of_le (uI_lt x) (Nat.pow_le_pow_right (by decide) (by omega)))
theorem le_bits {x z : Int32} (h : ∀ k, k < 32 → bt x k = true → bt z k = true) (hz : bt z 31 = false) : x ≤ z := by
  have h1 : uI x ||| uI z = uI z := by
    apply Nat.eq_of_testBit_eq
    intro k
    rw [Nat.testBit_or, uI_bit, uI_bit]
    by_cases hk : k < 32
    · cases hx : bt x k
      · simp
      · rw [h k hk hx]; rfl
    · rw [b_big (by omega), b_big (by omega)]; rfl
  have h2 : uI x ≤ uI z := by rw [← h1]; exact Nat.left_le_or
  have h3 : uI z < 2 ^ 31 := by
    apply Nat.lt_pow_two_of_testBit
    intro k hk
    rw [uI_bit]
    by_cases q : k = 31
    · rw [q]; exact hz
    · exact b_big (by omega)
  rw [uI_e x, uI_e z]
  exact nI_le h2 h3
theorem Pc.top {n pl : Nat} {g : Nat → Nat → Bool} {q : Nat → Nat} {z : Int32} (hn : n ≤ 7) (h : Pc n g q pl z) {k : Nat} (hk : k < 32) (h15 : 15 ≤ k) : bt z k = false := by
  cases hb : bt z k
  · rfl
  · obtain ⟨i, j, h1, h2, h3, h4, h5⟩ := (h k hk).mp hb
    have := bop_lt (i := i) (j := j) (by omega) h2 (by omega)
    omega
theorem Pc.le {n pl : Nat} {g : Nat → Nat → Bool} {q : Nat → Nat} {y z : Int32} (hn : n ≤ 7) (h1 : Pc n g q pl y) (h2 : Pc n g q 0 z) : y ≤ z :=
  le_bits (fun k hk hb => (h2 k hk).mpr (by obtain ⟨i, j, a1, a2⟩ := (h1 k hk).mp hb; exact ⟨i, j, by omega, a2⟩)) (h2.top hn (by decide) (by decide))
theorem Pc.nn {n pl : Nat} {g : Nat → Nat → Bool} {q : Nat → Nat} {z : Int32} (hn : n ≤ 7) (h : Pc n g q pl z) : uI z < 2 ^ 15 := by
  apply Nat.lt_pow_two_of_testBit
  intro k hk
  rw [uI_bit]
  by_cases q : k < 32
  · exact h.top hn q hk
  · exact b_big (by omega)
theorem bits_exist (p : Nat → Bool) : ∃ z : Int32, ∀ k, k < 32 → bt z k = p k := by
  have key : ∀ m, ∃ N, N < 2 ^ m ∧ ∀ k, k < m → N.testBit k = p k := by
    intro m
    induction m with
    | zero => exact ⟨0, by decide, fun k hk => absurd hk (by omega)⟩
    | succ m ih =>
      obtain ⟨N, h1, h2⟩ := ih
      cases hp : p m
      · refine ⟨N, Nat.lt_of_lt_of_le h1 (Nat.pow_le_pow_right (by decide) (by omega)), fun k hk => ?_⟩
        by_cases q : k = m
        · subst q; rw [hp]; exact Nat.testBit_lt_two_pow h1
        · exact h2 k (by omega)
      · refine ⟨2 ^ m * 1 + N, by rw [Nat.pow_succ]; omega, fun k hk => ?_⟩
        rw [Nat.testBit_two_pow_mul_add 1 h1]
        by_cases q : k = m
        · subst q; simp [hp]
        · rw [if_pos (by omega)]; exact h2 k (by omega)
  obtain ⟨N, h1, h2⟩ := key 32
  exact ⟨nI N, fun k hk => by rw [bt_nI hk]; exact h2 k hk⟩
theorem Pc_exist (n : Nat) (g : Nat → Nat → Bool) (q : Nat → Nat) (pl : Nat) : ∃ z, Pc n g q pl z := by
  obtain ⟨z, hz⟩ := bits_exist (fun k => @decide (∃ i j, pl < i ∧ i < j ∧ j < n ∧ bop i j = k ∧ cc g q i j = true) (Classical.propDecidable _))
  refine ⟨z, fun k hk => ?_⟩
  rw [hz k hk]
  exact @decide_eq_true_iff _ (Classical.propDecidable _)
/-- r is the least number of all numberings -/
def isMin (n : Nat) (g : Nat → Nat → Bool) (r : Int32) : Prop := (∃ q, Pm n q ∧ Pc n g q 0 r) ∧ ∀ q z, Pm n q → Pc n g q 0 z → r ≤ z
theorem isMin.uniq {n : Nat} {g : Nat → Nat → Bool} {r s : Int32} (h1 : isMin n g r) (h2 : isMin n g s) : r = s := by
  obtain ⟨⟨q1, a1, a2⟩, a3⟩ := h1
  obtain ⟨⟨q2, b1, b2⟩, b3⟩ := h2
  exact Int32.le_antisymm (a3 q2 s b1 b2) (b3 q1 r a1 a2)
theorem Pm_id (n : Nat) : Pm n (fun i => i) := ⟨fun _ h => h, fun _ _ _ _ h => h⟩
theorem isMin_exist (n : Nat) (g : Nat → Nat → Bool) (hn : n ≤ 7) : ∃ r, isMin n g r := by
  obtain ⟨z0, hz0⟩ := Pc_exist n g (fun i => i) 0
  obtain ⟨k, ⟨q, z, hq, hz, e⟩, hmin⟩ := pk_least (fun k => ∃ q z, Pm n q ∧ Pc n g q 0 z ∧ uI z = k) ⟨_, _, z0, Pm_id n, hz0, rfl⟩
  refine ⟨z, ⟨q, hq, hz⟩, fun q' z' hq' hz' => ?_⟩
  have h1 : k ≤ uI z' := Nat.not_lt.mp (fun r => hmin _ r ⟨q', z', hq', hz', rfl⟩)
  have h2 := hz'.nn hn
  rw [uI_e z, uI_e z', e]
  exact nI_le h1 (by omega)
theorem isMin.eqg {n : Nat} {g g' : Nat → Nat → Bool} {r : Int32} (h : isMin n g r) (e : ∀ x y, x < n → y < n → g x y = g' x y) : isMin n g' r := by
  have key : ∀ (a b : Nat → Nat → Bool) (q : Nat → Nat) (z : Int32), (∀ x y, x < n → y < n → a x y = b x y) → Pm n q → Pc n a q 0 z → Pc n b q 0 z := fun a b q z eab hq hz k hk => (hz k hk).trans (by
    have ce : ∀ i j, 0 < i → i < j → j < n → cc a q i j = cc b q i j := fun i j h1 h2 h3 => by
      unfold cc
      rw [eab _ _ (hq.1 i (by omega)) (hq.1 j h3), eab _ _ (hq.1 0 (by omega)) (hq.1 i (by omega)), eab _ _ (hq.1 0 (by omega)) (hq.1 j h3)]
    constructor
    · rintro ⟨i, j, h1, h2, h3, h4, h5⟩; exact ⟨i, j, h1, h2, h3, h4, by rw [← ce i j h1 h2 h3]; exact h5⟩
    · rintro ⟨i, j, h1, h2, h3, h4, h5⟩; exact ⟨i, j, h1, h2, h3, h4, by rw [ce i j h1 h2 h3]; exact h5⟩)
  obtain ⟨⟨q, a1, a2⟩, a3⟩ := h
  exact ⟨⟨q, a1, key g g' q r e a1 a2⟩, fun q' z hq' hz => a3 q' z hq' (key g' g q' z (fun x y hx hy => (e x y hx hy).symm) hq' hz)⟩
theorem pg_mem : ∀ (m : Nat) (av l : List Nat), l.length = m → l.Nodup → (∀ x ∈ l, x ∈ av) → l ∈ pg m av
  | 0, av, l, h1, _, _ => by
    have : l = [] := List.length_eq_zero_iff.mp h1
    rw [this]; exact List.mem_singleton.mpr rfl
  | m + 1, av, [], h1, _, _ => by simp at h1
  | m + 1, av, x :: t, h1, h2, h3 => by
    have hx := List.nodup_cons.mp h2
    refine List.mem_flatMap.mpr ⟨x, h3 x List.mem_cons_self, List.mem_map.mpr ⟨t, pg_mem m (av.erase x) t (by simpa using h1) hx.2 (fun y hy => ?_), rfl⟩⟩
    exact (List.mem_erase_of_ne (a := y) (b := x) (fun e => hx.1 (by rw [← e]; exact hy))).mpr (h3 y (List.mem_cons_of_mem _ hy))
theorem pg_ok : ∀ (m : Nat) (av l : List Nat), av.Nodup → l ∈ pg m av → l.length = m ∧ l.Nodup ∧ ∀ x ∈ l, x ∈ av
  | 0, av, l, _, h => by
    have : l = [] := List.mem_singleton.mp h
    subst this
    exact ⟨rfl, List.nodup_nil, fun x hx => absurd hx List.not_mem_nil⟩
  | m + 1, av, l, hd, h => by
    obtain ⟨x, hx, ht0⟩ := List.mem_flatMap.mp h
    obtain ⟨t, ht, rfl⟩ := List.mem_map.mp ht0
    obtain ⟨h1, h2, h3⟩ := pg_ok m (av.erase x) t (hd.erase x) ht
    refine ⟨by simp [h1], List.nodup_cons.mpr ⟨fun q => ((hd.mem_erase_iff).mp (h3 x q)).1 rfl, h2⟩, fun y hy => ?_⟩
    rcases List.mem_cons.mp hy with rfl | hy
    · exact hx
    · exact List.mem_of_mem_erase (h3 y hy)
theorem pg_nodup : ∀ (m : Nat) (av : List Nat), av.Nodup → (pg m av).Nodup
  | 0, av, _ => List.nodup_cons.mpr ⟨List.not_mem_nil, List.nodup_nil⟩
  | m + 1, av, hd => by
    refine List.pairwise_flatMap.mpr ⟨fun x hx => ?_, ?_⟩
    · refine List.pairwise_map.mpr ((pg_nodup m (av.erase x) (hd.erase x)).imp (fun {a b} hab e => hab (List.cons.inj e).2))
    · refine List.Pairwise.imp (fun {a b} hab x hx y hy e => ?_) hd
      obtain ⟨t, -, rfl⟩ := List.mem_map.mp hx
      obtain ⟨u, -, rfl⟩ := List.mem_map.mp hy
      exact hab (List.cons.inj e).1
def fnL (l : List Nat) : Nat → Nat := fun i => l.getD i 0
theorem okp_pm {n : Nat} {l : List Nat} (h : okp n l = true) : Pm n (fnL l) ∧ l.length = n := by
  unfold okp at h
  rw [Bool.and_eq_true, Bool.and_eq_true] at h
  obtain ⟨⟨h1, h2⟩, h3⟩ := h
  have h1 : l.length = n := by simpa using h1
  have h3 := of_decide_eq_true h3
  have hget : ∀ i, (hi : i < n) → fnL l i = l[i]'(by omega) := fun i hi => by unfold fnL; rw [List.getD_eq_getElem?_getD, List.getElem?_eq_getElem (by omega)]; rfl
  refine ⟨⟨fun i hi => ?_, fun i j hi hj e => ?_⟩, h1⟩
  · rw [hget i hi]
    exact of_decide_eq_true (List.all_eq_true.mp h2 _ (List.getElem_mem _))
  · rw [hget i hi, hget j hj] at e
    rcases Nat.lt_trichotomy i j with q | q | q
    · exact absurd e (List.pairwise_iff_getElem.mp h3 i j (by omega) (by omega) q)
    · exact q
    · exact absurd e.symm (List.pairwise_iff_getElem.mp h3 j i (by omega) (by omega) q)
theorem pm_list {n : Nat} {q : Nat → Nat} (h : Pm n q) : (List.range n).map q ∈ pg n (List.range n) ∧ ∀ i, i < n → fnL ((List.range n).map q) i = q i := by
  refine ⟨pg_mem n _ _ (by simp) ?_ (fun x hx => ?_), fun i hi => ?_⟩
  · refine List.pairwise_map.mpr (List.Pairwise.imp_of_mem (fun {a b} ha hb hab e => hab (h.2 a b (List.mem_range.mp ha) (List.mem_range.mp hb) e)) (List.nodup_range (n := n)))
  · obtain ⟨i, hi, rfl⟩ := List.mem_map.mp hx
    exact List.mem_range.mpr (h.1 i (List.mem_range.mp hi))
  · unfold fnL; simp [hi]
