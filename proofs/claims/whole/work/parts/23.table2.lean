theorem nI1 (k : Nat) : (nI k + (1 : Int32)) = nI (k + 1) := nI_1 k
def uI (x : Int32) : Nat := x.toBitVec.toNat
theorem uI_n {n : Nat} (h : n < 2 ^ 32) : uI (nI n) = n := pk_tn h
theorem uI_lt (x : Int32) : uI x < 2 ^ 32 := x.toBitVec.isLt
theorem uI_e (x : Int32) : x = nI (uI x) := by
  obtain ⟨n, hn, rfl⟩ := wb_of32 x
  rw [uI_n hn]
theorem nI_z {n : Nat} (h : n < 2 ^ 32) : nI n = 0 ↔ n = 0 := by
  constructor
  · intro e
    have := congrArg uI e
    rw [uI_n h] at this
    exact this
  · rintro rfl; rfl
def rowOk (n : Nat) (x : Int32) : Bool := decide (uI x < 2 ^ n ∧ uI x % 2 = 0)
theorem and1_nI {n : Nat} : nI n &&& (1 : Int32) = nI (n % 2) := by
  rw [show (1 : Int32) = nI (2 ^ 1 - 1) from rfl, fa_mask]
theorem s_isRow {d : Nat} {P : Int32 → Hp → Prop} {h : Hp} {t a n : Nat} {x : Int32} {g : Nat → Nat → Bool} (hn : n ≤ 10) (hT : TB h t a n g) (hP : P (b2i (rowOk n x)) h) : CI M_X3_isRow (d + 1) [.ref t, .int x] h P := by
  obtain ⟨N, hN, rfl⟩ := wb_of32 x
  unfold rowOk at hP
  rw [uI_n hN] at hP
  have e1 : (nI N &&& (1 : Int32)) = 0 ↔ N % 2 = 0 := by rw [and1_nI, nI_z (by omega)]
  have e2 : iushr (nI N) (nI n) = 0 ↔ N < 2 ^ n := by
    have hp : 0 < 2 ^ n := Nat.two_pow_pos n
    rw [iushr_nI hN (by omega), nI_z (Nat.lt_of_le_of_lt (Nat.div_le_self _ _) hN), Nat.div_eq_zero_iff]
    omega
  refine e_X3_isRow hT.ok ?_
  rw [e1]
  refine ⟨fun c => ?_, fun c => ⟨nI n, gI_o hT.1 hT.2.2.1 rfl, ?_⟩⟩
  · rw [show decide (N < 2 ^ n ∧ N % 2 = 0) = false by simp [c]] at hP; exact hP
  · rw [e2]
    refine ⟨fun c2 => ?_, fun c2 => ?_⟩
    · rw [show decide (N < 2 ^ n ∧ N % 2 = 0) = false by simp [c2]] at hP; exact hP
    · rw [show decide (N < 2 ^ n ∧ N % 2 = 0) = true by simp [c2, c]] at hP; exact hP
/-! a line more -/
def adg (g : Nat → Nat → Bool) (b : Nat → Bool) (n k : Nat) : Nat → Nat → Bool := fun x y => if x = n ∧ y < k then b y else if y = n ∧ x < k then b x else g x y
theorem l_addLine {d : Nat} {P : Hp → Prop} {t a n : Nat} {g : Nat → Nat → Bool} {x : Int32} (hn : n < 10) (hg : WF n g) (h0 : Hp) : ∀ (m k : Nat) (h : Hp), k + m = n → TB h t a (n + 1) (adg g (bt x) n k) → Fr (T2 t a) h0 h →
    (∀ h', TB h' t a (n + 1) (adg g (bt x) n n) → Fr (T2 t a) h0 h' → P h') → L_X3_addLine_17 (d + 2) P h t x (nI n) (nI k) := by
  intro m
  induction m with
  | zero =>
    intro k h hk hT hF hP
    refine r_X3_addLine_17 (pk_le n k (fun c => ?_) (fun c => absurd c (by omega)))
    rw [show k = n by omega] at hT
    exact hP h hT hF
  | succ m ih =>
    intro k h hk hT hF hP
    have hkn : k ≠ n := by omega
    have hsy : adg g (bt x) n k k n = adg g (bt x) n k n k := by
      unfold adg
      simp [hkn, hg.1 k n]
    have hstep : ∀ u v, stg (adg g (bt x) n k) k n (bt x k) u v = adg g (bt x) n (k + 1) u v := by
      intro u v
      unfold stg adg
      by_cases a1 : u = k ∧ v = n
      · obtain ⟨rfl, rfl⟩ := a1
        simp [hkn]
      · by_cases a2 : u = n ∧ v = k
        · obtain ⟨rfl, rfl⟩ := a2
          simp
        · rw [if_neg (by rintro (r | r); exact a1 r; exact a2 r)]
          have e1 : (u = n ∧ v < k) ↔ (u = n ∧ v < k + 1) := by
            constructor
            · rintro ⟨r1, r2⟩; exact ⟨r1, by omega⟩
            · rintro ⟨r1, r2⟩
              have : v ≠ k := fun r => a2 ⟨r1, r⟩
              exact ⟨r1, by omega⟩
          have e2 : (v = n ∧ u < k) ↔ (v = n ∧ u < k + 1) := by
            constructor
            · rintro ⟨r1, r2⟩; exact ⟨r1, by omega⟩
            · rintro ⟨r1, r2⟩
              have : u ≠ k := fun r => a1 ⟨r, r1⟩
              exact ⟨r1, by omega⟩
          simp only [e1, e2]
    have fin : ∀ h4, TB h4 t a (n + 1) (stg (adg g (bt x) n k) k n (bt x k)) → Fr (T2 t a) h h4 → L_X3_addLine_17 (d + 2) P h4 t x (nI n) (nI k + (1 : Int32)) := by
      intro h4 hT4 hF4
      rw [nI1]
      exact ih (k + 1) h4 (by omega) (hT4.eq (fun x _ y _ => hstep x y)) (hF.tr hF4) hP
    refine r_X3_addLine_17 (pk_le n k (fun c => absurd c (by omega)) (fun c => ?_))
    rw [bt_bit (by omega)]
    cases hb : bt x k
    · rw [hb] at fin
      refine ⟨fun _ => ?_, fun c => absurd rfl c⟩
      exact s_setMinus (w := false) rfl hT (by omega) (by omega) hkn hsy fin
    · rw [hb] at fin
      refine ⟨fun c => absurd c (by decide), fun _ => ?_⟩
      exact s_setMinus (w := true) rfl hT (by omega) (by omega) hkn hsy fin
theorem s_addLine {d : Nat} {P : Hp → Prop} {h : Hp} {t a n : Nat} {x : Int32} {g : Nat → Nat → Bool} (hn : n < 10) (hg : WF n g) (hT : TB h t a n g) (hP : ∀ h', TB h' t a (n + 1) (adg g (bt x) n n) → Fr (T2 t a) h h' → P h') : CV M_X3_addLine (d + 3) [.ref t, .int x] h P := by
  obtain ⟨ht, ha, e1, f, e2, e3⟩ := hT
  refine e_X3_addLine ⟨ht, _, e1⟩ ⟨nI n, gI_o ht e1 rfl, nI n, gI_o ht e1 rfl, _, sF_o ht e1 (by simp), ?_⟩
  refine l_addLine hn hg h n 0 _ (by omega) ⟨ht, ha, ?_, f, ?_, fun i hi j hj => ?_⟩ (Fr.hu (Or.inl rfl)) hP
  · rw [hu_s, nI1]; rfl
  · rw [hu_n (ne_oa e1 e2).symm]; exact e2
  · unfold adg
    simp only [Nat.not_lt_zero, and_false, if_false]
    exact e3 i hi j hj
theorem wf_add {n : Nat} {g : Nat → Nat → Bool} {b : Nat → Bool} (hg : WF n g) : WF (n + 1) (adg g b n n) := by
  refine ⟨fun x y => ?_, fun x => ?_, fun x y hx => ?_⟩
  · unfold adg
    by_cases a1 : x = n ∧ y < n
    · rw [if_pos a1, if_neg (by omega), if_pos a1]
    · by_cases a2 : y = n ∧ x < n
      · rw [if_neg a1, if_pos a2, if_pos a2]
      · rw [if_neg a1, if_neg a2, if_neg a2, if_neg a1]; exact hg.1 x y
  · unfold adg
    rw [if_neg (by omega), if_neg (by omega)]; exact hg.2.1 x
  · unfold adg
    rw [if_neg (by omega), if_neg (by omega)]; exact hg.2.2 x y (by omega)
theorem wf_trn {n i : Nat} {g : Nat → Nat → Bool} (hg : WF n g) (hi : i < n) : WF n (trn g n i) := by
  refine ⟨fun x y => ?_, fun x => ?_, fun x y hx => ?_⟩
  · unfold trn
    have e : ((x = i ∧ y < n ∧ y ≠ i) ∨ (y = i ∧ x < n ∧ x ≠ i)) ↔ ((y = i ∧ x < n ∧ x ≠ i) ∨ (x = i ∧ y < n ∧ y ≠ i)) := ⟨fun h => h.symm, fun h => h.symm⟩
    simp only [e, hg.1 x y]
  · unfold trn
    rw [if_neg (by omega)]; exact hg.2.1 x
  · unfold trn
    rw [if_neg (by omega)]; exact hg.2.2 x y hx
theorem wf_stg {n i j : Nat} {w : Bool} {g : Nat → Nat → Bool} (hg : WF n g) (hi : i < n) (hj : j < n) (hij : i ≠ j) : WF n (stg g i j w) := by
  refine ⟨fun x y => ?_, fun x => ?_, fun x y hx => ?_⟩
  · unfold stg
    have e : ((x = i ∧ y = j) ∨ (x = j ∧ y = i)) ↔ ((y = i ∧ x = j) ∨ (y = j ∧ x = i)) := by omega
    simp only [e, hg.1 x y]
  · unfold stg
    rw [if_neg (by omega)]; exact hg.2.1 x
  · unfold stg
    rw [if_neg (by omega)]; exact hg.2.2 x y hx
theorem wf_no (n : Nat) : WF n (fun _ _ => false) := ⟨fun _ _ => rfl, fun _ => rfl, fun _ _ _ => rfl⟩
/-! lines that change their numbers -/
def swp (i j x : Nat) : Nat := if x = i then j else if x = j then i else x
theorem swp_lt {i j x n : Nat} (hi : i < n) (hj : j < n) (hx : x < n) : swp i j x < n := by unfold swp; split <;> (try split) <;> omega
theorem swp_ge {i j x n : Nat} (hi : i < n) (hj : j < n) (hx : n ≤ x) : swp i j x = x := by unfold swp; rw [if_neg (by omega), if_neg (by omega)]
theorem l_swapLines {d : Nat} {P : Hp → Prop} {t a n i j : Nat} {g : Nat → Nat → Bool} (hn : n ≤ 10) (hi : i < n) (hj : j < n) (hg : WF n g) (h0 : Hp) : ∀ (m k : Nat) (h : Hp), k + m = n → TB h t a n (fun x y => if x < k then g (swp i j x) (swp i j y) else g (swp i j x) y) → Fr (T2 t a) h0 h →
    (∀ h', TB h' t a n (fun x y => g (swp i j x) (swp i j y)) → Fr (T2 t a) h0 h' → P h') → L_X3_swapLines_29 (d + 1) P h t (nI i) (nI j) (nI k) := by
  intro m
  induction m with
  | zero =>
    intro k h hk hT hF hP
    refine r_X3_swapLines_29 ⟨nI n, gI_o hT.1 hT.2.2.1 rfl, pk_le n k (fun c => ?_) (fun c => absurd c (by omega))⟩
    refine hP h (hT.eq (fun x hx y hy => ?_)) hF
    by_cases q : x < k
    · rw [if_pos q]
    · rw [if_neg q, swp_ge hi hj (by omega : n ≤ x), hg.2.2 x y (by omega), hg.2.2 x _ (by omega)]
  | succ m ih =>
    intro k h hk hT hF hP
    refine r_X3_swapLines_29 ⟨nI n, gI_o hT.1 hT.2.2.1 rfl, pk_le n k (fun c => absurd c (by omega)) (fun c => ?_)⟩
    refine s_isMinus hT (by omega) (by omega) (s_isMinus hT (by omega) (by omega) ?_)
    rw [if_neg (Nat.lt_irrefl k), if_neg (Nat.lt_irrefl k)]
    refine ⟨fun c2 => ?_, fun c2 => ?_⟩
    · have hpq : g (swp i j k) i = g (swp i j k) j := by
        revert c2; unfold b2i; cases g (swp i j k) i <;> cases g (swp i j k) j <;> simp
      rw [nI1]
      refine ih (k + 1) h (by omega) (hT.eq (fun x hx y hy => ?_)) hF hP
      by_cases q : x < k
      · rw [if_pos q, if_pos (by omega)]
      · rw [if_neg q]
        by_cases q2 : x = k
        · subst q2
          rw [if_pos (by omega)]
          unfold swp at hpq ⊢
          by_cases r : y = i
          · subst r; rw [if_pos rfl]; exact hpq
          · by_cases r2 : y = j
            · subst r2; rw [if_neg r, if_pos rfl]; exact hpq.symm
            · rw [if_neg r, if_neg r2]
        · rw [if_neg (by omega)]
    · have hpq : g (swp i j k) i = !g (swp i j k) j := by
        revert c2; unfold b2i; cases g (swp i j k) i <;> cases g (swp i j k) j <;> simp
      have hij : i ≠ j := fun q => by subst q; revert hpq; cases g (swp i i k) i <;> simp
      obtain ⟨ht, ha, e1, f, e2, e3⟩ := hT
      have hta := ne_oa e1 e2
      refine ⟨a, gR_o ht e1 rfl, f k, lI_o ha e2 (by omega), _, sI_o ha e2 (by omega), ?_⟩
      rw [nI1]
      refine ih (k + 1) _ (by omega) ⟨ht, ha, by rw [hu_n hta]; exact e1, _, hu_s, fun x hx y hy => ?_⟩ (hF.tr (Fr.hu (Or.inr rfl))) hP
      have e3x := e3 x hx y hy
      dsimp only at e3x ⊢
      by_cases q2 : x = k
      · subst q2
        rw [if_pos (by omega), pk_us, b_xor, b_or, bt_one (by omega) hy, bt_one (by omega) hy, e3x, if_neg (Nat.lt_irrefl x)]
        unfold swp at hpq ⊢
        by_cases r : y = i
        · subst r; rw [if_pos rfl, hpq]; simp
        · by_cases r2 : y = j
          · subst r2; rw [if_neg r, if_pos rfl, hpq]; simp
          · rw [if_neg r, if_neg r2]; simp [r, r2]
      · rw [pk_un q2, e3x]
        by_cases q : x < k
        · rw [if_pos q, if_pos (by omega)]
        · rw [if_neg q, if_neg (by omega)]
theorem s_swapLines {d : Nat} {P : Hp → Prop} {h : Hp} {t a n i j : Nat} {g : Nat → Nat → Bool} (hn : n ≤ 10) (hi : i < n) (hj : j < n) (hg : WF n g) (hT : TB h t a n g) (hP : ∀ h', TB h' t a n (fun x y => g (swp i j x) (swp i j y)) → Fr (T2 t a) h h' → P h') : CV M_X3_swapLines (d + 2) [.ref t, .int (nI i), .int (nI j)] h P := by
  obtain ⟨ht, ha, e1, f, e2, e3⟩ := hT
  have hta := ne_oa e1 e2
  refine e_X3_swapLines ⟨ht, _, e1⟩ ⟨a, gR_o ht e1 rfl, f i, lI_o ha e2 (by omega), a, gR_o ht e1 rfl, a, gR_o ht e1 rfl, f j, lI_o ha e2 (by omega), _, sI_o ha e2 (by omega), a, gR_o ht (by rw [hu_n hta]; exact e1) rfl, _, sI_o ha hu_s (by omega), ?_⟩
  refine l_swapLines hn hi hj hg h n 0 _ (by omega) ⟨ht, ha, by rw [hu_n hta, hu_n hta]; exact e1, _, hu_s, fun x hx y hy => ?_⟩ ((Fr.hu (Or.inr rfl)).tr (Fr.hu (Or.inr rfl))) hP
  dsimp only
  rw [if_neg (Nat.not_lt_zero x), ← e3 _ (by exact swp_lt (by omega) (by omega) hx) y hy]
  unfold upd swp
  by_cases q : x = j
  · subst q
    rw [if_pos rfl]
    by_cases q2 : x = i
    · subst q2; rw [if_pos rfl]
    · rw [if_neg q2, if_pos rfl]
  · rw [if_neg q]
    by_cases q2 : x = i
    · subst q2; rw [if_pos rfl, if_pos rfl]
    · rw [if_neg q2, if_neg q2, if_neg q]
theorem wf_swp {n i j : Nat} {g : Nat → Nat → Bool} (hg : WF n g) (hi : i < n) (hj : j < n) : WF n (fun x y => g (swp i j x) (swp i j y)) :=
  ⟨fun x y => hg.1 _ _, fun x => hg.2.1 _, fun x y hx => by dsimp only; rw [swp_ge hi hj hx]; exact hg.2.2 x _ hx⟩
