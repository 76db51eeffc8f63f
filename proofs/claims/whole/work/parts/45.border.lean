/-! ===== one line more ===== -/
theorem cv_c2 {E F c q : Nat → Int} {a : Int} (h0 : F 0 = E 0) (h1 : F 1 = E 1 + a * E 0) (h2 : ∀ k, F (k + 2) = E (k + 2) + a * E (k + 1) - c k) : ∀ k j, cv F q (k + 2) j = cv E q (k + 2) j + a * cv E q (k + 1) j - cv c q k j
  | 0, j => by
    show F 2 * q j + (F 1 * q (j + 1) + F 0 * q (j + 1 + 1)) = E 2 * q j + (E 1 * q (j + 1) + E 0 * q (j + 1 + 1)) + a * (E 1 * q j + E 0 * q (j + 1)) - c 0 * q j
    rw [h0, h1, h2 0]; grind
  | k + 1, j => by
    have := cv_c2 (q := q) h0 h1 h2 k (j + 1)
    rw [show cv F q (k + 1 + 2) j = F (k + 1 + 2) * q j + cv F q (k + 2) (j + 1) from rfl, this, h2 (k + 1),
      show cv E q (k + 1 + 2) j = E (k + 1 + 2) * q j + cv E q (k + 2) (j + 1) from rfl, show cv E q (k + 1 + 1) j = E (k + 1 + 1) * q j + cv E q (k + 1) (j + 1) from rfl, show cv c q (k + 1) j = c (k + 1) * q j + cv c q k (j + 1) from rfl]
    grind
theorem cv_sh {p p' q E : Nat → Int} {x : Int} (h0 : p 0 = E 0 * x) (h1 : ∀ k, p (k + 1) = E (k + 1) * x + p' k) : ∀ k j, cv p q (k + 1) j = x * cv E q (k + 1) j + cv p' q k j
  | 0, j => by
    show p 1 * q j + p 0 * q (j + 1) = x * (E 1 * q j + E 0 * q (j + 1)) + p' 0 * q j
    rw [h0, h1 0]; grind
  | k + 1, j => by
    rw [show cv p q (k + 1 + 1) j = p (k + 1 + 1) * q j + cv p q (k + 1) (j + 1) from rfl, cv_sh (q := q) h0 h1 k (j + 1), h1 (k + 1), show cv E q (k + 1 + 1) j = E (k + 1 + 1) * q j + cv E q (k + 1) (j + 1) from rfl, show cv p' q (k + 1) j = p' (k + 1) * q j + cv p' q k (j + 1) from rfl]
    grind
/-- products of series may be taken in either order -/
theorem cv_xch (E be m : Nat → Int) : ∀ k j, cv (fun k => cv E be k j) m k 0 = cv (fun k => cv E m k 0) be k j
  | 0, j => by show E 0 * be j * m 0 = E 0 * m 0 * be j; grind
  | k + 1, j => by
    rw [cv_sh (p := fun k => cv E be k j) (p' := fun k => cv E be k (j + 1)) (E := E) (x := be j) rfl (fun _ => rfl) k 0, cv_xch E be m k (j + 1)]
    show _ = cv E m (k + 1) 0 * be j + _
    rw [Int.mul_comm]
def gam (g : Nat → Nat → Int) : Nat → Nat → Int
  | 0, j => g 0 j
  | k + 1, j => g (k + 1) j + gam g k (j + 1)
theorem gam_w {E be : Nat → Int} {m : Int} : ∀ k j, gam (fun k j => cv E be k j) k j - cv (fun k : Nat => (m - (k : Int)) * E k) be k j = - (m - (k : Int) - 1) * cv E be k j
  | 0, j => by
    show E 0 * be j - (m - ((0 : Nat) : Int)) * E 0 * be j = _ * (E 0 * be j)
    grind
  | k + 1, j => by
    have := gam_w (E := E) (be := be) (m := m) k (j + 1)
    rw [show gam (fun k j => cv E be k j) (k + 1) j = cv E be (k + 1) j + gam (fun k j => cv E be k j) k (j + 1) from rfl, show cv (fun k : Nat => (m - (k : Int)) * E k) be (k + 1) j = (m - ((k + 1 : Nat) : Int)) * E (k + 1) * be j + cv (fun k : Nat => (m - (k : Int)) * E k) be k (j + 1) from rfl, show cv E be (k + 1) j = E (k + 1) * be j + cv E be k (j + 1) from rfl]
    have e : ((k + 1 : Nat) : Int) = (k : Int) + 1 := by omega
    rw [e]
    grind
/-- the row of a new line times rest k times that row -/
def uu (A : Nat → Nat → Int) (m : Nat) (R : Nat → Nat → Nat → Int) (k i : Nat) : Int := sm (fun l => R k i l * A l m) m
def cc2 (A : Nat → Nat → Int) (m : Nat) (R : Nat → Nat → Nat → Int) (k : Nat) : Int := sm (fun i => A i m * uu A m R k i) m
def Fb (A : Nat → Nat → Int) (m : Nat) (E : Nat → Int) (R : Nat → Nat → Nat → Int) : Nat → Int
  | 0 => 1
  | 1 => E 1 + A m m * E 0
  | k + 2 => E (k + 2) + A m m * E (k + 1) - cc2 A m R k
def Qb (A : Nat → Nat → Int) (n : Nat) (F : Nat → Int) : Nat → Nat → Nat → Int
  | 0, i, j => F 0 * dl i j
  | k + 1, i, j => F (k + 1) * dl i j - sm (fun l => A i l * Qb A n F k l j) n
theorem Qb_rs (A : Nat → Nat → Int) (n : Nat) (F : Nat → Int) : RS n A F (Qb A n F) := ⟨fun _ _ _ _ => rfl, fun _ _ _ _ _ => rfl⟩
theorem uu_0 {m : Nat} {A : Nat → Nat → Int} {E : Nat → Int} {R : Nat → Nat → Nat → Int} (h : FS m A E R) {i : Nat} (hi : i < m) : uu A m R 0 i = A i m := by
  unfold uu
  rw [sm_cong (g := fun l => dl i l * A l m) (fun l hl => by rw [h.2.1.1 i l hi hl, h.1, Int.one_mul]), sm_dl (f := fun l => A l m) hi]
theorem uu_s {m : Nat} {A : Nat → Nat → Int} {E : Nat → Int} {R : Nat → Nat → Nat → Int} (h : RS m A E R) (k : Nat) {i : Nat} (hi : i < m) : uu A m R (k + 1) i = E (k + 1) * A i m - sm (fun l => A i l * uu A m R k l) m := by
  unfold uu
  rw [sm_cong (g := fun l => dl i l * (E (k + 1) * A l m) - sm (fun p => A i p * R k p l) m * A l m) (fun l hl => by rw [h.2 k i l hi hl, Int.sub_mul, Int.mul_comm (E (k + 1)), Int.mul_assoc]), sm_sub, sm_dl hi, sm3 (fun l => A i l) (fun l p => R k l p) (fun p => A p m) m m]
theorem uv {m : Nat} {A : Nat → Nat → Int} {E : Nat → Int} {R : Nat → Nat → Nat → Int} (hA : SY A) (h : FS m A E R) : ∀ k j, sm (fun i => uu A m R k i * uu A m (mp A m) j i) m = cv E (fun j => sm (fun i => A i m * uu A m (mp A m) j i) m) k j
  | 0, j => by
    show _ = E 0 * _
    rw [h.1, Int.one_mul]
    exact sm_cong (fun i hi => by rw [uu_0 h hi])
  | k + 1, j => by
    rw [show cv E (fun j => sm (fun i => A i m * uu A m (mp A m) j i) m) (k + 1) j = E (k + 1) * sm (fun i => A i m * uu A m (mp A m) j i) m + cv E (fun j => sm (fun i => A i m * uu A m (mp A m) j i) m) k (j + 1) from rfl, ← uv hA h k (j + 1),
      sm_cong (g := fun i => E (k + 1) * (A i m * uu A m (mp A m) j i) - sm (fun l => A i l * uu A m R k l) m * uu A m (mp A m) j i) (fun i hi => by rw [uu_s h.2.1 k hi, Int.sub_mul, Int.mul_assoc]), sm_sub, sm_mul]
    have e : sm (fun i => uu A m R k i * uu A m (mp A m) (j + 1) i) m = - sm (fun i => sm (fun l => A i l * uu A m R k l) m * uu A m (mp A m) j i) m := by
      rw [sm_cong (g := fun i => - (uu A m R k i * sm (fun l => A i l * uu A m (mp A m) j l) m)) (fun i hi => by rw [uu_s (mp_rs A m) j hi, show e0 (j + 1) = 0 from rfl, Int.zero_mul, Int.zero_sub, Int.mul_neg]), sm_neg, sm3 (fun l => uu A m R k l) A (fun p => uu A m (mp A m) j p) m m]
      congr 1
      exact sm_cong (fun i hi => by rw [sm_cong (g := fun l => A i l * uu A m R k l) (fun l hl => by rw [Int.mul_comm, hA l i])])
    rw [e]; omega
theorem Qb_col {m : Nat} {A : Nat → Nat → Int} {E : Nat → Int} {R : Nat → Nat → Nat → Int} (hA : SY A) (h : FS m A E R) : ∀ k, (Qb A (m + 1) (Fb A m E R) k m m = E k) ∧ (∀ i, i < m → Qb A (m + 1) (Fb A m E R) 0 i m = 0) ∧ ∀ i, i < m → Qb A (m + 1) (Fb A m E R) (k + 1) i m = - uu A m R k i := by
  have d1 : dl m m = 1 := by unfold dl; simp
  have d0 : ∀ i, i < m → dl i m = 0 := fun i hi => by unfold dl; rw [if_neg (by omega)]
  have z0 : ∀ i, i < m → Qb A (m + 1) (Fb A m E R) 0 i m = 0 := fun i hi => by
    show Fb A m E R 0 * dl i m = 0
    rw [d0 i hi, Int.mul_zero]
  have q0 : Qb A (m + 1) (Fb A m E R) 0 m m = E 0 := by
    show Fb A m E R 0 * dl m m = E 0
    rw [d1, h.1]; rfl
  have q1 : ∀ i, i < m → Qb A (m + 1) (Fb A m E R) 1 i m = - uu A m R 0 i := fun i hi => by
    show Fb A m E R 1 * dl i m - sm (fun l => A i l * Qb A (m + 1) (Fb A m E R) 0 l m) (m + 1) = _
    rw [d0 i hi, Int.mul_zero, sm_s, sm_zero (fun l hl => by rw [z0 l hl, Int.mul_zero]), q0, h.1, uu_0 h hi]; omega
  have p1 : Qb A (m + 1) (Fb A m E R) 1 m m = E 1 := by
    show Fb A m E R 1 * dl m m - sm (fun l => A m l * Qb A (m + 1) (Fb A m E R) 0 l m) (m + 1) = _
    rw [d1, sm_s, sm_zero (fun l hl => by rw [z0 l hl, Int.mul_zero]), q0]
    show (E 1 + A m m * E 0) * 1 - _ = _
    omega
  have key : ∀ k, (Qb A (m + 1) (Fb A m E R) k m m = E k) ∧ (Qb A (m + 1) (Fb A m E R) (k + 1) m m = E (k + 1)) ∧ ∀ i, i < m → Qb A (m + 1) (Fb A m E R) (k + 1) i m = - uu A m R k i := by
    intro k
    induction k with
    | zero => exact ⟨q0, p1, q1⟩
    | succ k ih =>
      obtain ⟨-, i1, i3⟩ := ih
      refine ⟨i1, ?_, fun i hi => ?_⟩
      · show Fb A m E R (k + 2) * dl m m - sm (fun l => A m l * Qb A (m + 1) (Fb A m E R) (k + 1) l m) (m + 1) = E (k + 2)
        rw [d1, sm_s, i1, sm_cong (g := fun l => - (A l m * uu A m R k l)) (fun l hl => by rw [i3 l hl, Int.mul_neg, hA m l]), sm_neg]
        show (E (k + 2) + A m m * E (k + 1) - cc2 A m R k) * 1 - (-(sm (fun l => A l m * uu A m R k l) m) + A m m * E (k + 1)) = E (k + 2)
        rw [show cc2 A m R k = sm (fun l => A l m * uu A m R k l) m from rfl]
        omega
      · show Fb A m E R (k + 2) * dl i m - sm (fun l => A i l * Qb A (m + 1) (Fb A m E R) (k + 1) l m) (m + 1) = _
        rw [d0 i hi, Int.mul_zero, sm_s, i1, sm_cong (g := fun l => - (A i l * uu A m R k l)) (fun l hl => by rw [i3 l hl, Int.mul_neg]), sm_neg, uu_s h.2.1 k hi, Int.mul_comm (A i m)]
        omega
  exact fun k => ⟨(key k).1, z0, (key k).2.2⟩
/-- the trace of (power j times the upper left of rest k) with one line more -/
theorem Qb_tau {m : Nat} {A : Nat → Nat → Int} {E : Nat → Int} {R : Nat → Nat → Nat → Int} (hA : SY A) (h : FS m A E R) (k j : Nat) : sm (fun i => sm (fun l => mp A m j i l * Qb A (m + 1) (Fb A m E R) (k + 1) l i) m) m = Fb A m E R (k + 1) * mu A m j + sm (fun i => sm (fun l => mp A m (j + 1) i l * Qb A (m + 1) (Fb A m E R) k l i) m) m - sm (fun i => uu A m (mp A m) j i * Qb A (m + 1) (Fb A m E R) k i m) m := by
  unfold mu
  rw [← sm_mul, ← sm_add, ← sm_sub]
  refine sm_cong (fun i hi => ?_)
  have hs : ∀ l, Qb A (m + 1) (Fb A m E R) (k + 1) l i = Fb A m E R (k + 1) * dl l i - sm (fun p => A l p * Qb A (m + 1) (Fb A m E R) k p i) m - A l m * Qb A (m + 1) (Fb A m E R) k m i := fun l => by
    show Fb A m E R (k + 1) * dl l i - sm (fun p => A l p * Qb A (m + 1) (Fb A m E R) k p i) (m + 1) = _
    rw [sm_s]; omega
  rw [sm_cong (g := fun l => (mp A m j i l * Fb A m E R (k + 1)) * dl l i - mp A m j i l * sm (fun p => A l p * Qb A (m + 1) (Fb A m E R) k p i) m - (mp A m j i l * A l m) * Qb A (m + 1) (Fb A m E R) k m i) (fun l hl => by rw [hs l, Int.mul_sub, Int.mul_sub, Int.mul_assoc, Int.mul_assoc]), sm_sub, sm_sub, sm_d hi, sm_mulr, sm3 (fun l => mp A m j i l) A (fun p => Qb A (m + 1) (Fb A m E R) k p i) m m,
    sm_cong (f := fun l => mp A m (j + 1) i l * Qb A (m + 1) (Fb A m E R) k l i) (g := fun p => - (sm (fun l => mp A m j i l * A l p) m * Qb A (m + 1) (Fb A m E R) k p i)) (fun p hp => by rw [mp_r A m j i p hi hp, Int.neg_mul]), sm_neg, (Qb_rs A (m + 1) (Fb A m E R)).sym hA k m i (by omega) (by omega), Int.mul_comm (mp A m j i i)]
  unfold uu
  omega
theorem FS.border {m : Nat} {A : Nat → Nat → Int} {E : Nat → Int} {R : Nat → Nat → Nat → Int} (hA : SY A) (h : FS m A E R) : FS (m + 1) A (Fb A m E R) (Qb A (m + 1) (Fb A m E R)) := by
  have hc := Qb_col hA h
  refine ⟨rfl, Qb_rs _ _ _, fun k => ?_⟩
  have ctr : ∀ k, cv E (mu A m) k 0 = ((m : Int) - k) * E k := fun k => by rw [← h.2.1.tr0 k, h.2.2 k]
  have t0 : ∀ j, sm (fun i => sm (fun l => mp A m j i l * Qb A (m + 1) (Fb A m E R) 0 l i) m) m = mu A m j := fun j => by
    unfold mu
    refine sm_cong (fun i hi => ?_)
    rw [sm_cong (g := fun l => mp A m j i l * dl l i) (fun l hl => by show mp A m j i l * (1 * dl l i) = _; rw [Int.one_mul]), sm_d hi]
  have t1 : ∀ j, sm (fun i => sm (fun l => mp A m j i l * Qb A (m + 1) (Fb A m E R) 1 l i) m) m = cv (Fb A m E R) (mu A m) 1 j := fun j => by
    rw [Qb_tau hA h 0 j, t0, sm_zero (fun i hi => by rw [(hc 0).2.1 i hi, Int.mul_zero])]
    show _ = Fb A m E R 1 * mu A m j + 1 * mu A m (j + 1)
    rw [Int.one_mul, Int.sub_zero]
  have t2 : ∀ k j, sm (fun i => sm (fun l => mp A m j i l * Qb A (m + 1) (Fb A m E R) (k + 2) l i) m) m = cv (Fb A m E R) (mu A m) (k + 2) j + gam (fun k j => cv E (fun j => sm (fun i => A i m * uu A m (mp A m) j i) m) k j) k j := by
    intro k
    induction k with
    | zero =>
      intro j
      rw [Qb_tau hA h 1 j, t1, sm_cong (g := fun i => - (uu A m R 0 i * uu A m (mp A m) j i)) (fun i hi => by rw [(hc 0).2.2 i hi, Int.mul_neg, Int.mul_comm]), sm_neg, uv hA h 0 j]
      rw [show cv (Fb A m E R) (mu A m) (0 + 2) j = Fb A m E R (1 + 1) * mu A m j + cv (Fb A m E R) (mu A m) 1 (j + 1) from rfl, show gam (fun k j => cv E (fun j => sm (fun i => A i m * uu A m (mp A m) j i) m) k j) 0 j = cv E (fun j => sm (fun i => A i m * uu A m (mp A m) j i) m) 0 j from rfl]
      omega
    | succ k ih =>
      intro j
      rw [Qb_tau hA h (k + 2) j, ih (j + 1), sm_cong (g := fun i => - (uu A m R (k + 1) i * uu A m (mp A m) j i)) (fun i hi => by rw [(hc (k + 1)).2.2 i hi, Int.mul_neg, Int.mul_comm]), sm_neg, uv hA h (k + 1) j]
      rw [show cv (Fb A m E R) (mu A m) (k + 1 + 2) j = Fb A m E R (k + 2 + 1) * mu A m j + cv (Fb A m E R) (mu A m) (k + 2) (j + 1) from rfl, show gam (fun k j => cv E (fun j => sm (fun i => A i m * uu A m (mp A m) j i) m) k j) (k + 1) j = cv E (fun j => sm (fun i => A i m * uu A m (mp A m) j i) m) (k + 1) j + gam (fun k j => cv E (fun j => sm (fun i => A i m * uu A m (mp A m) j i) m) k j) k (j + 1) from rfl]
      omega
  have tm : ∀ k, sm (fun i => Qb A (m + 1) (Fb A m E R) k i i) m = sm (fun i => sm (fun l => mp A m 0 i l * Qb A (m + 1) (Fb A m E R) k l i) m) m := fun k =>
    sm_cong (fun i hi => (sm_dl (f := fun l => Qb A (m + 1) (Fb A m E R) k l i) hi).symm)
  rw [sm_s, (hc k).1, tm k]
  match k with
  | 0 =>
    rw [t0, mu_0, h.1]
    show (m : Int) + 1 = (((m + 1 : Nat) : Int) - ((0 : Nat) : Int)) * 1
    omega
  | 1 =>
    rw [t1]
    have c1 := ctr 1
    have h0 := h.1
    show (E 1 + A m m * E 0) * mu A m 0 + 1 * mu A m 1 + E 1 = (((m + 1 : Nat) : Int) - ((1 : Nat) : Int)) * (E 1 + A m m * E 0)
    rw [show cv E (mu A m) 1 0 = E 1 * mu A m 0 + E 0 * mu A m 1 from rfl, mu_0] at c1
    rw [mu_0]
    have e1 : ((m + 1 : Nat) : Int) = (m : Int) + 1 := by omega
    have e2 : ((1 : Nat) : Int) = 1 := rfl
    rw [e1, e2]
    rw [e2] at c1
    grind
  | k + 2 =>
    have hcc : ∀ k, cc2 A m R k = cv E (fun j => sm (fun i => A i m * uu A m (mp A m) j i) m) k 0 := fun k => by
      rw [← uv hA h k 0]
      unfold cc2
      refine sm_cong (fun i hi => ?_)
      have : uu A m (mp A m) 0 i = A i m := by
        unfold uu
        exact sm_dl (f := fun l => A l m) hi
      rw [this, Int.mul_comm]
    have w := gam_w (E := E) (be := fun j => sm (fun i => A i m * uu A m (mp A m) j i) m) (m := (m : Int)) k 0
    have x := cv_xch E (fun j => sm (fun i => A i m * uu A m (mp A m) j i) m) (mu A m) k 0
    rw [cv_cong (p := fun k => cv E (fun j => sm (fun i => A i m * uu A m (mp A m) j i) m) k 0) (p' := cc2 A m R) (q' := mu A m) k 0 (fun i _ => (hcc i).symm) (fun _ => rfl), cv_cong (p := fun k => cv E (mu A m) k 0) (p' := fun k : Nat => ((m : Int) - (k : Int)) * E k) (q' := fun j => sm (fun i => A i m * uu A m (mp A m) j i) m) k 0 (fun i _ => ctr i) (fun _ => rfl)] at x
    have f := cv_c2 (q := mu A m) (E := E) (F := Fb A m E R) (c := cc2 A m R) (a := A m m) (by rw [h.1]; rfl) rfl (fun _ => rfl) k 0
    rw [t2 k 0, f, x, ctr, ctr]
    rw [← hcc k] at w
    show _ = _ * (E (k + 2) + A m m * E (k + 1) - cc2 A m R k)
    have e1 : ((m + 1 : Nat) : Int) = (m : Int) + 1 := by omega
    have e2 : ((k + 2 : Nat) : Int) = (k : Int) + 2 := by omega
    have e3 : ((k + 1 : Nat) : Int) = (k : Int) + 1 := by omega
    rw [e1, e2, e3]
    grind
