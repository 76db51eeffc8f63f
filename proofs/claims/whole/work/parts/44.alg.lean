/-! ===== sums over whole numbers ===== -/
def sm (f : Nat → Int) : Nat → Int
  | 0 => 0
  | n + 1 => sm f n + f n
theorem sm_s (f : Nat → Int) (n : Nat) : sm f (n + 1) = sm f n + f n := rfl
theorem sm_cong {f g : Nat → Int} : ∀ {n : Nat}, (∀ i, i < n → f i = g i) → sm f n = sm g n
  | 0, _ => rfl
  | n + 1, h => by rw [sm_s, sm_s, sm_cong (fun i hi => h i (by omega)), h n (by omega)]
theorem sm_add (f g : Nat → Int) : ∀ n, sm (fun i => f i + g i) n = sm f n + sm g n
  | 0 => rfl
  | n + 1 => by rw [sm_s, sm_s, sm_s, sm_add f g n]; omega
theorem sm_neg (f : Nat → Int) : ∀ n, sm (fun i => - f i) n = - sm f n
  | 0 => rfl
  | n + 1 => by rw [sm_s, sm_s, sm_neg f n]; omega
theorem sm_sub (f g : Nat → Int) : ∀ n, sm (fun i => f i - g i) n = sm f n - sm g n
  | 0 => rfl
  | n + 1 => by rw [sm_s, sm_s, sm_s, sm_sub f g n]; omega
theorem sm_mul (c : Int) (f : Nat → Int) : ∀ n, sm (fun i => c * f i) n = c * sm f n
  | 0 => by simp [sm]
  | n + 1 => by rw [sm_s, sm_s, sm_mul c f n, Int.mul_add]
theorem sm_mulr (c : Int) (f : Nat → Int) : ∀ n, sm (fun i => f i * c) n = sm f n * c
  | 0 => by simp [sm]
  | n + 1 => by rw [sm_s, sm_s, sm_mulr c f n, Int.add_mul]
theorem sm_zero {f : Nat → Int} : ∀ {n : Nat}, (∀ i, i < n → f i = 0) → sm f n = 0
  | 0, _ => rfl
  | n + 1, h => by rw [sm_s, sm_zero (fun i hi => h i (by omega)), h n (by omega)]; rfl
theorem sm_swap (f : Nat → Nat → Int) (m : Nat) : ∀ n, sm (fun i => sm (fun j => f i j) m) n = sm (fun j => sm (fun i => f i j) n) m
  | 0 => (sm_zero (fun _ _ => rfl)).symm
  | n + 1 => by
    rw [sm_s, sm_swap f m n, ← sm_add]
    rfl
def dl (i j : Nat) : Int := if i = j then 1 else 0
theorem dl_c (i j : Nat) : dl i j = dl j i := by unfold dl; by_cases h : i = j <;> simp [h, eq_comm]
theorem sm_dr (f : Nat → Int) (i : Nat) : ∀ n, sm (fun k => f k * dl k i) n = if i < n then f i else 0
  | 0 => rfl
  | n + 1 => by
    rw [sm_s, sm_dr f i n]
    unfold dl
    by_cases h : n = i
    · subst h; simp
    · rw [if_neg h]
      by_cases h2 : i < n
      · rw [if_pos h2, if_pos (by omega)]; omega
      · rw [if_neg h2, if_neg (by omega)]; omega
theorem sm_d {f : Nat → Int} {i n : Nat} (h : i < n) : sm (fun k => f k * dl k i) n = f i := by rw [sm_dr, if_pos h]
theorem sm_dl {f : Nat → Int} {i n : Nat} (h : i < n) : sm (fun k => dl i k * f k) n = f i := by
  rw [sm_cong (g := fun k => f k * dl k i) (fun k _ => by rw [Int.mul_comm, dl_c]), sm_d h]
/-! ===== the rests of a table: R k = E k - A R (k - 1) ===== -/
def RS (n : Nat) (A : Nat → Nat → Int) (E : Nat → Int) (R : Nat → Nat → Nat → Int) : Prop := (∀ i j, i < n → j < n → R 0 i j = E 0 * dl i j) ∧ ∀ k i j, i < n → j < n → R (k + 1) i j = E (k + 1) * dl i j - sm (fun l => A i l * R k l j) n
def SY (A : Nat → Nat → Int) : Prop := ∀ i j, A i j = A j i
theorem sm3 (f : Nat → Int) (g : Nat → Nat → Int) (q : Nat → Int) (n m : Nat) : sm (fun l => f l * sm (fun p => g l p * q p) m) n = sm (fun p => sm (fun l => f l * g l p) n * q p) m := by
  rw [sm_cong (g := fun l => sm (fun p => f l * g l p * q p) m) (fun l _ => by rw [← sm_mul]; exact sm_cong (fun p _ => by rw [Int.mul_assoc])), sm_swap]
  exact sm_cong (fun p _ => sm_mulr _ _ _)
theorem RS.com {n : Nat} {A : Nat → Nat → Int} {E : Nat → Int} {R : Nat → Nat → Nat → Int} (h : RS n A E R) : ∀ k i j, i < n → j < n → sm (fun l => A i l * R k l j) n = sm (fun l => R k i l * A l j) n
  | 0, i, j, hi, hj => by
    rw [sm_cong (g := fun l => (A i l * E 0) * dl l j) (fun l hl => by rw [h.1 l j hl hj, Int.mul_assoc]), sm_d hj, sm_cong (g := fun l => dl i l * (E 0 * A l j)) (fun l hl => by rw [h.1 i l hi hl, Int.mul_comm (E 0), Int.mul_assoc]), sm_dl hi, Int.mul_comm]
  | k + 1, i, j, hi, hj => by
    have h1 : sm (fun l => A i l * R (k + 1) l j) n = A i j * E (k + 1) - sm (fun l => A i l * sm (fun p => A l p * R k p j) n) n := by
      rw [sm_cong (g := fun l => (A i l * E (k + 1)) * dl l j - A i l * sm (fun p => A l p * R k p j) n) (fun l hl => by rw [h.2 k l j hl hj, Int.mul_sub, Int.mul_assoc]), sm_sub, sm_d hj]
    have h2 : sm (fun l => R (k + 1) i l * A l j) n = E (k + 1) * A i j - sm (fun l => sm (fun p => A i p * R k p l) n * A l j) n := by
      rw [sm_cong (g := fun l => dl i l * (E (k + 1) * A l j) - sm (fun p => A i p * R k p l) n * A l j) (fun l hl => by rw [h.2 k i l hi hl, Int.sub_mul, Int.mul_comm (E (k + 1)), Int.mul_assoc]), sm_sub, sm_dl hi]
    rw [h1, h2, Int.mul_comm]
    congr 1
    rw [← sm3 (fun p => A i p) (fun p l => R k p l) (fun l => A l j) n n]
    exact sm_cong (fun l hl => by rw [h.com k l j hl hj])
theorem RS.sym {n : Nat} {A : Nat → Nat → Int} {E : Nat → Int} {R : Nat → Nat → Nat → Int} (h : RS n A E R) (hA : SY A) : ∀ k i j, i < n → j < n → R k i j = R k j i
  | 0, i, j, hi, hj => by rw [h.1 i j hi hj, h.1 j i hj hi, dl_c]
  | k + 1, i, j, hi, hj => by
    rw [h.2 k i j hi hj, h.2 k j i hj hi, h.com k i j hi hj, dl_c]
    congr 1
    exact sm_cong (fun l hl => by rw [h.sym hA k i l hi hl, hA l j, Int.mul_comm])
/-- powers with signs by turns -/
def mp (A : Nat → Nat → Int) (n : Nat) : Nat → Nat → Nat → Int
  | 0, i, j => dl i j
  | k + 1, i, j => - sm (fun l => A i l * mp A n k l j) n
def e0 : Nat → Int := fun k => if k = 0 then 1 else 0
theorem mp_rs (A : Nat → Nat → Int) (n : Nat) : RS n A e0 (mp A n) := ⟨fun i j _ _ => by show dl i j = 1 * dl i j; rw [Int.one_mul], fun k i j _ _ => by
  show - sm (fun l => A i l * mp A n k l j) n = 0 * dl i j - _
  rw [Int.zero_mul, Int.zero_sub]⟩
theorem mp_r (A : Nat → Nat → Int) (n : Nat) (k i j : Nat) (hi : i < n) (hj : j < n) : mp A n (k + 1) i j = - sm (fun l => mp A n k i l * A l j) n := by
  show - sm (fun l => A i l * mp A n k l j) n = _
  rw [(mp_rs A n).com k i j hi hj]
def mu (A : Nat → Nat → Int) (n : Nat) (j : Nat) : Int := sm (fun i => mp A n j i i) n
theorem sm_one : ∀ n, sm (fun _ => 1) n = (n : Int)
  | 0 => rfl
  | n + 1 => by rw [sm_s, sm_one n]; omega
theorem mu_0 (A : Nat → Nat → Int) (n : Nat) : mu A n 0 = n := by
  unfold mu
  rw [sm_cong (g := fun _ => 1) (fun i _ => by show dl i i = 1; unfold dl; simp), sm_one]
/-- cv p q k j is the sum of p (k - i) * q (i + j) -/
def cv (p q : Nat → Int) : Nat → Nat → Int
  | 0, j => p 0 * q j
  | k + 1, j => p (k + 1) * q j + cv p q k (j + 1)
theorem cv_cong {p p' q q' : Nat → Int} : ∀ k j, (∀ i, i ≤ k → p i = p' i) → (∀ i, q i = q' i) → cv p q k j = cv p' q' k j
  | 0, j, h1, h2 => by unfold cv; rw [h1 0 (by omega), h2 j]
  | k + 1, j, h1, h2 => by unfold cv; rw [h1 (k + 1) (by omega), h2 j, cv_cong k (j + 1) (fun i hi => h1 i (by omega)) h2]
/-- the trace of (power j times rest k) -/
theorem RS.rho {n : Nat} {A : Nat → Nat → Int} {E : Nat → Int} {R : Nat → Nat → Nat → Int} (h : RS n A E R) : ∀ k j, sm (fun i => sm (fun l => mp A n j i l * R k l i) n) n = cv E (mu A n) k j
  | 0, j => by
    unfold cv mu
    rw [← sm_mul]
    refine sm_cong (fun i hi => ?_)
    rw [sm_cong (g := fun l => (mp A n j i l * E 0) * dl l i) (fun l hl => by rw [h.1 l i hl hi, Int.mul_assoc]), sm_d hi, Int.mul_comm]
  | k + 1, j => by
    rw [cv, ← h.rho k (j + 1)]
    unfold mu
    rw [← sm_mul, ← sm_add]
    refine sm_cong (fun i hi => ?_)
    rw [sm_cong (g := fun l => (mp A n j i l * E (k + 1)) * dl l i - mp A n j i l * sm (fun p => A l p * R k p i) n) (fun l hl => by rw [h.2 k l i hl hi, Int.mul_sub, Int.mul_assoc]), sm_sub, sm_d hi, Int.mul_comm, sm3 (fun l => mp A n j i l) A (fun p => R k p i) n n,
      sm_cong (f := fun l => mp A n (j + 1) i l * R k l i) (g := fun p => - (sm (fun l => mp A n j i l * A l p) n * R k p i)) (fun p hp => by rw [mp_r A n j i p hi hp, Int.neg_mul]), sm_neg]
    omega
/-- a table's sums and rests -/
def FS (n : Nat) (A : Nat → Nat → Int) (E : Nat → Int) (R : Nat → Nat → Nat → Int) : Prop := E 0 = 1 ∧ RS n A E R ∧ ∀ k, sm (fun i => R k i i) n = ((n : Int) - k) * E k
theorem RS.tr0 {n : Nat} {A : Nat → Nat → Int} {E : Nat → Int} {R : Nat → Nat → Nat → Int} (h : RS n A E R) (k : Nat) : sm (fun i => R k i i) n = cv E (mu A n) k 0 := by
  rw [← h.rho k 0]
  exact sm_cong (fun i hi => (sm_dl (f := fun l => R k l i) hi).symm)
theorem FS.nw {n : Nat} {A : Nat → Nat → Int} {E : Nat → Int} {R : Nat → Nat → Nat → Int} (h : FS n A E R) (k : Nat) : ((k : Int) + 1) * E (k + 1) = sm (fun i => sm (fun l => A i l * R k l i) n) n := by
  have h1 := h.2.2 (k + 1)
  rw [sm_cong (g := fun i => E (k + 1) * 1 - sm (fun l => A i l * R k l i) n) (fun i hi => by rw [h.2.1.2 k i i hi hi]; unfold dl; simp), sm_sub, sm_mul, sm_one] at h1
  grind
theorem FS.nw2 {n : Nat} {A : Nat → Nat → Int} {E : Nat → Int} {R : Nat → Nat → Nat → Int} (h : FS n A E R) (k : Nat) : ((k : Int) + 1) * E (k + 1) = - cv E (mu A n) k 1 := by
  have h1 := h.2.1.tr0 (k + 1)
  rw [h.2.2 (k + 1), cv, mu_0] at h1
  grind
theorem FS.uniq {n : Nat} {A : Nat → Nat → Int} {E F : Nat → Int} {R Q : Nat → Nat → Nat → Int} (h : FS n A E R) (g : FS n A F Q) : ∀ k, E k = F k ∧ ∀ i j, i < n → j < n → R k i j = Q k i j
  | 0 => ⟨by rw [h.1, g.1], fun i j hi hj => by rw [h.2.1.1 i j hi hj, g.2.1.1 i j hi hj, h.1, g.1]⟩
  | k + 1 => by
    have ih := h.uniq g k
    have e1 : E (k + 1) = F (k + 1) := by
      have h1 := h.nw k
      have h2 := g.nw k
      rw [sm_cong (g := fun i => sm (fun l => A i l * Q k l i) n) (fun i hi => sm_cong (fun l hl => by rw [ih.2 l i hl hi])), ← h2] at h1
      exact Int.eq_of_mul_eq_mul_left (by omega) h1
    refine ⟨e1, fun i j hi hj => ?_⟩
    rw [h.2.1.2 k i j hi hj, g.2.1.2 k i j hi hj, e1, sm_cong (g := fun l => A i l * Q k l j) (fun l hl => by rw [ih.2 l j hl hj])]
