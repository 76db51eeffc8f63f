/-! ===== the lines' order does not matter; no sum above the size ===== -/
theorem FS.ex {A : Nat → Nat → Int} (hA : SY A) : ∀ m, ∃ E R, FS m A E R
  | 0 => ⟨e0, mp A 0, rfl, mp_rs A 0, fun k => by
    show (0 : Int) = _
    match k with
    | 0 => rfl
    | k + 1 => show (0 : Int) = _ * 0; rw [Int.mul_zero]⟩
  | m + 1 => by
    obtain ⟨E, R, h⟩ := FS.ex hA m
    exact ⟨_, _, h.border hA⟩
theorem sm_pt (f : Nat → Int) (v : Int) (i : Nat) : ∀ n, i < n → sm (fun k => if k = i then v else f k) n + f i = sm f n + v
  | 0, h => absurd h (by omega)
  | n + 1, h => by
    rw [sm_s, sm_s]
    by_cases q : n = i
    · subst q
      rw [sm_cong (g := f) (fun k hk => by rw [if_neg (by omega)])]
      simp; omega
    · rw [if_neg q]
      have := sm_pt f v i n (by omega)
      omega
theorem sm_swp (f : Nat → Int) {i m : Nat} (hi : i ≤ m) : sm (fun k => f (swp i m k)) (m + 1) = sm f (m + 1) := by
  by_cases q : i = m
  · subst q
    exact sm_cong (fun k _ => by unfold swp; by_cases h : k = i <;> simp [h])
  · rw [sm_s, sm_s]
    have e1 : f (swp i m m) = f i := by unfold swp; rw [if_neg (fun h => q h.symm), if_pos rfl]
    rw [e1, sm_cong (g := fun k => if k = i then f m else f k) (fun k hk => by
      unfold swp
      by_cases h : k = i
      · rw [if_pos h, if_pos h]
      · rw [if_neg h, if_neg h, if_neg (by omega)]), sm_pt f (f m) i m (by omega)]
theorem swq_lt {i m k : Nat} (hi : i ≤ m) (hk : k < m + 1) : swp i m k < m + 1 := by
  unfold swp
  by_cases h : k = i
  · rw [if_pos h]; omega
  · rw [if_neg h]
    by_cases h2 : k = m
    · rw [if_pos h2]; omega
    · rw [if_neg h2]; omega
theorem swp_sw (i m k : Nat) : swp i m (swp i m k) = k := by
  unfold swp
  by_cases h : k = i
  · subst h
    rw [if_pos rfl]
    by_cases h2 : m = k
    · rw [if_pos h2]; exact h2
    · rw [if_neg h2, if_pos rfl]
  · rw [if_neg h]
    by_cases h2 : k = m
    · subst h2; rw [if_pos rfl, if_pos rfl]
    · rw [if_neg h2, if_neg h, if_neg h2]
theorem dl_swp (i m x y : Nat) : dl (swp i m x) (swp i m y) = dl x y := by
  unfold dl
  by_cases h : x = y
  · rw [if_pos h, if_pos (by rw [h])]
  · rw [if_neg h, if_neg (fun q => h (by rw [← swp_sw i m x, q, swp_sw]))]
theorem FS.perm {m i : Nat} {A : Nat → Nat → Int} {E : Nat → Int} {R : Nat → Nat → Nat → Int} (h : FS (m + 1) A E R) (hi : i ≤ m) : FS (m + 1) (fun x y => A (swp i m x) (swp i m y)) E (fun k x y => R k (swp i m x) (swp i m y)) := by
  refine ⟨h.1, ⟨fun x y hx hy => ?_, fun k x y hx hy => ?_⟩, fun k => ?_⟩
  · dsimp only
    rw [h.2.1.1 _ _ (swq_lt hi hx) (swq_lt hi hy), dl_swp]
  · dsimp only
    rw [h.2.1.2 k _ _ (swq_lt hi hx) (swq_lt hi hy), dl_swp, sm_swp (fun l => A (swp i m x) l * R k l (swp i m y)) hi]
  · rw [sm_swp (fun l => R k l l) hi]; exact h.2.2 k
theorem FS.deg : ∀ (m : Nat) {A : Nat → Nat → Int} {E : Nat → Int} {R : Nat → Nat → Nat → Int}, SY A → FS m A E R → (∀ k, m ≤ k → ∀ i j, i < m → j < m → R k i j = 0) ∧ ∀ k, m < k → E k = 0
  | 0, A, E, R, hA, h => ⟨fun _ _ i _ hi => absurd hi (by omega), fun k hk => by
    have h1 := h.2.2 k
    rw [show sm (fun i => R k i i) 0 = 0 from rfl] at h1
    rcases Int.mul_eq_zero.mp h1.symm with r | r
    · exact absurd r (by omega)
    · exact r⟩
  | m + 1, A, E, R, hA, h => by
    have h1 : ∀ k, m + 1 ≤ k → ∀ i j, i < m + 1 → j < m + 1 → R k i j = 0 := by
      intro k hk i j hi hj
      have hB : SY (fun x y => A (swp j m x) (swp j m y)) := fun x y => hA _ _
      obtain ⟨E0, R0, h0⟩ := FS.ex hB m
      have ih := FS.deg m hB h0
      have hu := (h.perm (i := j) (by omega)).uniq (h0.border hB) k
      have hc := Qb_col hB h0
      have e := hu.2 (swp j m i) m (swq_lt (by omega) hi) (by omega)
      rw [swp_sw, show swp j m m = j by unfold swp; by_cases q : m = j <;> simp [q]] at e
      rw [e]
      obtain ⟨k', rfl⟩ : ∃ k', k = k' + 1 := ⟨k - 1, by omega⟩
      by_cases q : swp j m i = m
      · rw [q, (hc (k' + 1)).1]; exact ih.2 (k' + 1) (by omega)
      · have hlt : swp j m i < m := by have := swq_lt (i := j) (m := m) (by omega) hi; omega
        rw [(hc k').2.2 _ hlt]
        unfold uu
        rw [sm_zero (fun l hl => by rw [ih.1 k' (by omega) _ l hlt hl, Int.zero_mul])]; rfl
    refine ⟨h1, fun k hk => ?_⟩
    have h2 := h.2.2 k
    rw [sm_zero (fun i hi => h1 k (by omega) i i hi hi)] at h2
    rcases Int.mul_eq_zero.mp h2.symm with r | r
    · exact absurd r (by omega)
    · exact r
/-! ===== how large they become ===== -/
def ab (x : Int) : Int := (x.natAbs : Int)
theorem ab_0 (x : Int) : 0 ≤ ab x := by unfold ab; omega
theorem ab_add (x y : Int) : ab (x + y) ≤ ab x + ab y := by unfold ab; omega
theorem ab_neg (x : Int) : ab (- x) = ab x := by unfold ab; omega
theorem ab_mul (x y : Int) : ab (x * y) = ab x * ab y := by unfold ab; rw [Int.natAbs_mul]; rfl
theorem sm_le {f g : Nat → Int} : ∀ {n : Nat}, (∀ i, i < n → f i ≤ g i) → sm f n ≤ sm g n
  | 0, _ => Int.le_refl _
  | n + 1, h => by
    rw [sm_s, sm_s]
    have h1 := sm_le (n := n) (fun i hi => h i (by omega))
    have h2 := h n (by omega)
    omega
theorem sm_ab (f : Nat → Int) : ∀ n, ab (sm f n) ≤ sm (fun i => ab (f i)) n
  | 0 => by show ab 0 ≤ 0; decide
  | n + 1 => by
    rw [sm_s, sm_s]
    have h1 := sm_ab f n
    have h2 := ab_add (sm f n) (f n)
    omega
theorem sm_one_le {f : Nat → Int} : ∀ {n i : Nat}, (∀ i, i < n → 0 ≤ f i) → i < n → f i ≤ sm f n
  | 0, i, _, h => absurd h (by omega)
  | n + 1, i, h, hi => by
    rw [sm_s]
    have h0 : 0 ≤ f n := h n (by omega)
    have h1 : 0 ≤ sm f n := by
      have := sm_le (f := fun _ => 0) (g := f) (n := n) (fun i hi => h i (by omega))
      rw [sm_zero (fun _ _ => rfl)] at this
      exact this
    by_cases q : i = n
    · subst q; omega
    · have := sm_one_le (f := f) (n := n) (i := i) (fun i hi => h i (by omega)) (by omega)
      omega
theorem mp_row {A : Nat → Nat → Int} {n : Nat} (hs : ∀ i, i < n → sm (fun j => ab (A i j)) n ≤ 18) : ∀ k i, i < n → sm (fun j => ab (mp A n k i j)) n ≤ 18 ^ k
  | 0, i, hi => by
    rw [sm_cong (g := fun j => dl i j * 1) (fun j _ => by show ab (dl i j) = _; unfold dl; by_cases q : i = j <;> simp [q, ab]), sm_dl (f := fun _ => 1) hi]
    decide
  | k + 1, i, hi => by
    have h1 : sm (fun j => ab (mp A n (k + 1) i j)) n ≤ sm (fun j => sm (fun l => ab (mp A n k i l) * ab (A l j)) n) n := sm_le (fun j hj => by
      rw [mp_r A n k i j hi hj, ab_neg]
      refine Int.le_trans (sm_ab _ n) (Int.le_of_eq (sm_cong (fun l _ => ab_mul _ _)))
    )
    rw [sm_swap] at h1
    have h2 : sm (fun l => sm (fun j => ab (mp A n k i l) * ab (A l j)) n) n ≤ sm (fun l => ab (mp A n k i l) * 18) n := sm_le (fun l hl => by
      rw [sm_mul]
      exact Int.mul_le_mul_of_nonneg_left (hs l hl) (ab_0 _))
    rw [sm_mulr] at h2
    have h3 := Int.mul_le_mul_of_nonneg_right (mp_row hs k i hi) (show (0 : Int) ≤ 18 by decide)
    rw [Int.pow_succ]
    omega
theorem mu_le {A : Nat → Nat → Int} {n : Nat} (hn : n ≤ 10) (hs : ∀ i, i < n → sm (fun j => ab (A i j)) n ≤ 18) (k : Nat) : ab (mu A n k) ≤ 10 * 18 ^ k := by
  unfold mu
  have h1 := sm_ab (fun i => mp A n k i i) n
  have h2 : sm (fun i => ab (mp A n k i i)) n ≤ sm (fun _ => (18 : Int) ^ k * 1) n := sm_le (fun i hi => by
    have := sm_one_le (f := fun j => ab (mp A n k i j)) (n := n) (i := i) (fun _ _ => ab_0 _) hi
    rw [Int.mul_one]
    exact Int.le_trans this (mp_row hs k i hi))
  rw [sm_mul, sm_one] at h2
  have h3 : (0 : Int) ≤ 18 ^ k := Int.pow_nonneg (by decide)
  have h4 := Int.mul_le_mul_of_nonneg_left (show (n : Int) ≤ 10 by omega) h3
  omega
def Bd (k : Nat) : Int := ([1, 10, 55, 220, 715, 2002, 5005, 11440, 24310, 48620, 92378].getD k 0) * 18 ^ k
def Ud (k : Nat) : Int := 10 * 18 ^ k
theorem Bd_ok : ∀ k, k < 10 → cv Bd Ud k 1 = ((k : Int) + 1) * Bd (k + 1) ∧ ((k : Int) + 1) * Bd (k + 1) < 9223372036854775808 := by decide +kernel
theorem cv_ab {p q P Q : Nat → Int} (hQ : ∀ i, ab (q i) ≤ Q i) : ∀ k j, (∀ i, i ≤ k → ab (p i) ≤ P i) → ab (cv p q k j) ≤ cv P Q k j
  | 0, j, h => by
    unfold cv
    rw [ab_mul]
    exact Int.mul_le_mul (h 0 (by omega)) (hQ j) (ab_0 _) (Int.le_trans (ab_0 _) (h 0 (by omega)))
  | k + 1, j, h => by
    unfold cv
    have h1 := ab_add (p (k + 1) * q j) (cv p q k (j + 1))
    rw [ab_mul] at h1
    have h2 := Int.mul_le_mul (h (k + 1) (by omega)) (hQ j) (ab_0 _) (Int.le_trans (ab_0 _) (h (k + 1) (by omega)))
    have h3 := cv_ab hQ k (j + 1) (fun i hi => h i (by omega))
    omega
theorem FS.bd {n : Nat} {A : Nat → Nat → Int} {E : Nat → Int} {R : Nat → Nat → Nat → Int} (hn : n ≤ 10) (hs : ∀ i, i < n → sm (fun j => ab (A i j)) n ≤ 18) (h : FS n A E R) : ∀ k, k ≤ 10 → ∀ i, i ≤ k → ab (E i) ≤ Bd i ∧ ab ((i : Int) * E i) < 9223372036854775808
  | 0, _, i, hi => by
    have : i = 0 := by omega
    subst this
    rw [h.1]
    decide
  | k + 1, hk, i, hi => by
    have ih := h.bd hn hs k (by omega)
    by_cases q : i ≤ k
    · exact ih i q
    · have : i = k + 1 := by omega
      subst this
      have h1 := cv_ab (p := E) (q := mu A n) (P := Bd) (Q := Ud) (fun i => mu_le hn hs i) k 1 (fun i hi => (ih i hi).1)
      have h2 := Bd_ok k (by omega)
      have h3 := h.nw2 k
      have e : ((k + 1 : Nat) : Int) = (k : Int) + 1 := by omega
      have h4 : ab (((k + 1 : Nat) : Int) * E (k + 1)) ≤ ((k : Int) + 1) * Bd (k + 1) := by
        rw [e, h3, ab_neg, ← h2.1]; exact h1
      refine ⟨?_, by omega⟩
      rw [ab_mul, e, show ab ((k : Int) + 1) = (k : Int) + 1 by unfold ab; omega] at h4
      exact Int.le_of_mul_le_mul_left h4 (by omega)
