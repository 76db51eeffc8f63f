theorem pq_ne {x y : Int32} {A B : Prop} (a b : Nat) (f : a ≠ b → A) (g : a = b → B) (hx : x = nI a := by rfl) (hy : y = nI b := by rfl) (ha : a < 2 ^ 31 := by omega) (hb : b < 2 ^ 31 := by omega) : (¬ x = y → A) ∧ (x = y → B) := by
  subst hx hy
  rw [nI_eq ha hb]
  exact ⟨f, g⟩
def pm (b : Bool) : Int32 := if b then -1 else 1
def stg (g : Nat → Nat → Bool) (i j : Nat) (w : Bool) : Nat → Nat → Bool := fun x y => if (x = i ∧ y = j) ∨ (x = j ∧ y = i) then w else g x y
/-- a table of n lines: its own mirror, nothing on the diagonal, nothing beyond -/
def WF (n : Nat) (g : Nat → Nat → Bool) : Prop := (∀ x y, g x y = g y x) ∧ (∀ x, g x x = false) ∧ ∀ x y, n ≤ x → g x y = false
theorem WF.r {n : Nat} {g : Nat → Nat → Bool} (h : WF n g) {x y : Nat} (hy : n ≤ y) : g x y = false := by rw [h.1]; exact h.2.2 y x hy
theorem s_isMinus {d : Nat} {P : Int32 → Hp → Prop} {h : Hp} {t a n i j : Nat} {g : Nat → Nat → Bool} (hT : TB h t a n g) (hi : i < 10) (hj : j < 32) (hP : P (b2i (g i j)) h) : CI M_X3_isMinus (d + 1) [.ref t, .int (nI i), .int (nI j)] h P := by
  obtain ⟨ht, ha, e1, f, e2, e3⟩ := hT
  refine e_X3_isMinus ⟨ht, _, e1⟩ ⟨a, gR_o ht e1 rfl, f i, lI_o ha e2 hi, ?_⟩
  rw [bt_bit hj, e3 i hi j hj]
  unfold b2i at hP
  cases hg : g i j <;> simp [hg] at hP ⊢ <;> exact hP
theorem s_hasLine {d : Nat} {P : Int32 → Hp → Prop} {h : Hp} {t a n : Nat} {x : Int32} {g : Nat → Nat → Bool} (hT : TB h t a n g) (hP : P (b2i (decide (0 ≤ x ∧ x < nI n))) h) : CI M_X3_hasLine (d + 1) [.ref t, .int x] h P := by
  obtain ⟨ht, ha, e1, f, e2, e3⟩ := hT
  refine e_X3_hasLine ⟨ht, _, e1⟩ ⟨fun c => ?_, fun c => ⟨nI n, gI_o ht e1 rfl, fun c2 => ?_, fun c2 => ?_⟩⟩
  · rw [show decide (0 ≤ x ∧ x < nI n) = false by simp [Int32.not_le.mpr c]] at hP; exact hP
  · rw [show decide (0 ≤ x ∧ x < nI n) = false by simp [Int32.not_lt.mpr c2]] at hP; exact hP
  · rw [show decide (0 ≤ x ∧ x < nI n) = true by simp [Int32.not_lt.mp c, Int32.not_le.mp c2]] at hP; exact hP
theorem s_entry {d : Nat} {P : Int32 → Hp → Prop} {h : Hp} {t a n i j : Nat} {g : Nat → Nat → Bool} (hT : TB h t a n g) (hi : i < 10) (hj : j < 10) (hP : P (if i = j then 0 else pm (g i j)) h) : CI M_X3_entry (d + 2) [.ref t, .int (nI i), .int (nI j)] h P := by
  refine e_X3_entry hT.ok (pq_ne i j (fun c => ?_) (fun c => ?_))
  · refine s_isMinus hT hi (by omega) ?_
    rw [if_neg c] at hP
    unfold pm at hP
    unfold b2i
    cases hg : g i j <;> simp [hg] at hP ⊢ <;> exact hP
  · rw [if_pos c] at hP; exact hP
theorem s_setMinus {d : Nat} {P : Hp → Prop} {h : Hp} {t a n i j : Nat} {g : Nat → Nat → Bool} {w : Bool} {wv : Int32} (hw : wv = b2i w) (hT : TB h t a n g) (hi : i < 10) (hj : j < 10) (hij : i ≠ j) (hs : g i j = g j i) (hP : ∀ h', TB h' t a n (stg g i j w) → Fr (T2 t a) h h' → P h') : CV M_X3_setMinus (d + 2) [.ref t, .int (nI i), .int (nI j), .int wv] h P := by
  subst hw
  refine e_X3_setMinus hT.ok (s_isMinus hT hi (by omega) ⟨fun c => ?_, fun c => ?_⟩)
  · have hgw : g i j = w := by
      revert c; unfold b2i; cases g i j <;> cases w <;> simp
    refine hP h (hT.eq (fun x _ y _ => ?_)) Fr.rf
    unfold stg
    split
    · rename_i q
      rcases q with ⟨rfl, rfl⟩ | ⟨rfl, rfl⟩
      · exact hgw
      · rw [← hs]; exact hgw
    · rfl
  · have hgw : w = !g i j := by
      revert c; unfold b2i; cases g i j <;> cases w <;> simp
    obtain ⟨ht, ha, e1, f, e2, e3⟩ := hT
    have hta := ne_oa e1 e2
    refine ⟨a, gR_o ht e1 rfl, f i, lI_o ha e2 hi, _, sI_o ha e2 hi, a, gR_o ht (by rw [hu_n hta]; exact e1) rfl, _, lI_o ha hu_s hj, _, sI_o ha hu_s hj, ?_⟩
    refine hP _ ⟨ht, ha, by rw [hu_n hta, hu_n hta]; exact e1, _, hu_s, fun x hx y hy => ?_⟩ ((Fr.hu (Or.inr rfl)).tr (Fr.hu (Or.inr rfl)))
    have hji : j ≠ i := fun q => hij q.symm
    rw [pk_un hji]
    unfold stg upd
    by_cases q1 : x = j
    · subst q1
      rw [if_pos rfl, b_xor, bt_one (by omega) hy, e3 x hx y hy]
      by_cases q2 : y = i
      · subst q2
        rw [if_pos (Or.inr ⟨rfl, rfl⟩), hgw, hs]; simp
      · rw [if_neg (by rintro (⟨r, _⟩ | ⟨_, r⟩); exact hji r; exact q2 r)]; simp [q2]
    · rw [if_neg q1]
      by_cases q2 : x = i
      · subst q2
        rw [if_pos rfl, b_xor, bt_one (by omega) hy, e3 x hx y hy]
        by_cases q3 : y = j
        · subst q3
          rw [if_pos (Or.inl ⟨rfl, rfl⟩), hgw]; simp
        · rw [if_neg (by rintro (⟨_, r⟩ | ⟨r, _⟩); exact q3 r; exact q1 r)]; simp [q3]
      · rw [if_neg q2, if_neg (by rintro (⟨r, _⟩ | ⟨r, _⟩); exact q2 r; exact q1 r)]
        exact e3 x hx y hy
/-! turning -/
def trn (g : Nat → Nat → Bool) (k i : Nat) : Nat → Nat → Bool := fun x y => if (x = i ∧ y < k ∧ y ≠ i) ∨ (y = i ∧ x < k ∧ x ≠ i) then !g x y else g x y
theorem l_turnLine {d : Nat} {P : Hp → Prop} {t a n i : Nat} {g : Nat → Nat → Bool} (hn : n ≤ 10) (hi : i < n) (hg : WF n g) (h0 : Hp) : ∀ (m k : Nat) (h : Hp), k + m = n → TB h t a n (trn g k i) → Fr (T2 t a) h0 h →
    (∀ h', TB h' t a n (trn g n i) → Fr (T2 t a) h0 h' → P h') → L_X3_turnLine_2 (d + 2) P h t (nI i) (nI k) := by
  intro m
  induction m with
  | zero =>
    intro k h hk hT hF hP
    refine r_X3_turnLine_2 ⟨nI n, gI_o hT.1 hT.2.2.1 rfl, pk_le n k (fun c => ?_) (fun c => absurd c (by omega))⟩
    rw [show k = n by omega] at hT
    exact hP h hT hF
  | succ m ih =>
    intro k h hk hT hF hP
    refine r_X3_turnLine_2 ⟨nI n, gI_o hT.1 hT.2.2.1 rfl, pk_le n k (fun c => absurd c (by omega)) (fun c => pk_eq k i (fun q => ?_) (fun q => ?_))⟩
    · rw [show (nI k + (1 : Int32)) = nI (k + 1) from nI_1 k]
      refine ih (k + 1) h (by omega) (hT.eq (fun x _ y _ => ?_)) hF hP
      unfold trn
      subst q
      have e1 : (y < k ∧ y ≠ k) ↔ (y < k + 1 ∧ y ≠ k) := by omega
      have e2 : (x < k ∧ x ≠ k) ↔ (x < k + 1 ∧ x ≠ k) := by omega
      simp only [e1, e2]
    · have hiq : i ≠ k := fun r => q r.symm
      have hsy : trn g k i i k = trn g k i k i := by
        unfold trn
        rw [hg.1 i k]
        simp [q]
      have hgk : trn g k i i k = g i k := by
        unfold trn
        rw [if_neg]
        rintro (⟨_, r, _⟩ | ⟨r, _⟩)
        · omega
        · exact q r
      have hstep : ∀ x y, stg (trn g k i) i k (!(g i k)) x y = trn g (k + 1) i x y := by
        intro x y
        unfold stg trn
        by_cases a1 : x = i ∧ y = k
        · obtain ⟨rfl, rfl⟩ := a1
          have : (y < y + 1 ∧ y ≠ x) := ⟨by omega, q⟩
          simp [this]
        · by_cases a2 : x = k ∧ y = i
          · obtain ⟨rfl, rfl⟩ := a2
            have : (x < x + 1 ∧ x ≠ y) := ⟨by omega, q⟩
            simp [this, hg.1 x y]
          · rw [if_neg (by rintro (r | r); exact a1 r; exact a2 r)]
            have e1 : (x = i ∧ y < k ∧ y ≠ i) ↔ (x = i ∧ y < k + 1 ∧ y ≠ i) := by
              constructor
              · rintro ⟨r1, r2, r3⟩; exact ⟨r1, by omega, r3⟩
              · rintro ⟨r1, r2, r3⟩; exact ⟨r1, by have : y ≠ k := fun r => a1 ⟨r1, r⟩
                                                   omega, r3⟩
            have e2 : (y = i ∧ x < k ∧ x ≠ i) ↔ (y = i ∧ x < k + 1 ∧ x ≠ i) := by
              constructor
              · rintro ⟨r1, r2, r3⟩; exact ⟨r1, by omega, r3⟩
              · rintro ⟨r1, r2, r3⟩; exact ⟨r1, by have : x ≠ k := fun r => a2 ⟨r, r1⟩
                                                   omega, r3⟩
            simp only [e1, e2]
      refine s_isMinus hT (by omega) (by omega) ?_
      rw [hgk]
      have fin : ∀ h4, TB h4 t a n (stg (trn g k i) i k (!(g i k))) → Fr (T2 t a) h h4 → L_X3_turnLine_2 (d + 2) P h4 t (nI i) (nI k + (1 : Int32)) := by
        intro h4 hT4 hF4
        rw [show (nI k + (1 : Int32)) = nI (k + 1) from nI_1 k]
        exact ih (k + 1) h4 (by omega) (hT4.eq (fun x _ y _ => hstep x y)) (hF.tr hF4) hP
      cases hb : g i k
      · rw [hb] at fin
        refine ⟨fun c => absurd rfl c, fun c => ?_⟩
        exact s_setMinus (w := true) rfl hT (by omega) (by omega) hiq hsy fin
      · rw [hb] at fin
        refine ⟨fun c => ?_, fun c => absurd c (by decide)⟩
        exact s_setMinus (w := false) rfl hT (by omega) (by omega) hiq hsy fin
theorem s_turnLine {d : Nat} {P : Hp → Prop} {h : Hp} {t a n i : Nat} {g : Nat → Nat → Bool} (hn : n ≤ 10) (hi : i < n) (hg : WF n g) (hT : TB h t a n g) (hP : ∀ h', TB h' t a n (trn g n i) → Fr (T2 t a) h h' → P h') : CV M_X3_turnLine (d + 3) [.ref t, .int (nI i)] h P := by
  refine e_X3_turnLine hT.ok (l_turnLine hn hi hg h n 0 h (by omega) (hT.eq (fun x _ y _ => ?_)) Fr.rf hP)
  unfold trn
  simp
