theorem ct_mask {n m : Nat} {q : Nat → Bool} (h : n ≤ m) : fb_ct (fun k => decide (k < n) && q k) m = fb_ct q n := by
  obtain ⟨e, rfl⟩ : ∃ e, m = n + e := ⟨m - n, by omega⟩
  rw [fb_ct_split]
  have h1 : fb_ct (fun k => decide (k < n) && q k) n = fb_ct q n := fb_ct_cong (fun k hk => by simp [hk])
  have h2 : fb_ct (fun k => decide (n + k < n) && q (n + k)) e = 0 := fb_ct_zero.mpr (fun k hk => by
    have : ¬ n + k < n := by omega
    simp [this])
  rw [h1, h2]; rfl
theorem bt_mask {n k : Nat} (hn : n < 31) (hk : k < 32) : bt (ishl 1 (nI n) - 1) k = decide (k < n) := by
  have h1 : ishl 1 (nI n) = nI (2 ^ n) := by
    have h2 : (2 : Nat) ^ n < 2 ^ 31 := Nat.pow_lt_pow_right (by decide) hn
    have := pk_shlN (n := 1) (nI n &&& 31) n (s_l n (by omega)) (by omega)
    rw [Nat.one_mul] at this
    exact this
  have h3 : 1 ≤ 2 ^ n := Nat.one_le_two_pow
  rw [h1, show (1 : Int32) = nI 1 from rfl, pk_sub h3, bt_nI hk, Nat.testBit_two_pow_sub_one]
def tog (n : Nat) (g : Nat → Nat → Bool) (i j : Nat) : Nat := fb_ct (fun k => (!decide (k = i) && !decide (k = j)) && ((g i j ^^ g i k) ^^ g j k)) n
theorem tog_le (n : Nat) (g : Nat → Nat → Bool) (i j : Nat) : tog n g i j ≤ n := fb_ct_le _ n
theorem s_oddTriplesWith {d : Nat} {P : Int32 → Hp → Prop} {h : Hp} {t a n i j : Nat} {g : Nat → Nat → Bool} (hn : n ≤ 10) (hi : i < 10) (hj : j < 10) (hT : TB h t a n g) (hP : P (nI (tog n g i j)) h) : CI M_X3_oddTriplesWith (d + 2) [.ref t, .int (nI i), .int (nI j)] h P := by
  have hT' := hT
  obtain ⟨ht, ha, e1, f, e2, e3⟩ := hT
  refine e_X3_oddTriplesWith ⟨ht, _, e1⟩ ⟨a, gR_o ht e1 rfl, f i, lI_o ha e2 hi, a, gR_o ht e1 rfl, f j, lI_o ha e2 hj, s_isMinus hT' hi (by omega) ?_⟩
  have fin : ∀ z : Int32, (∀ k, k < 32 → bt z k = (decide (k < n) && ((!decide (k = i) && !decide (k = j)) && ((g i j ^^ g i k) ^^ g j k)))) → P (nI (fb_ct (bt z) 32)) h := by
    intro z hz
    rw [fb_ct_cong hz, ct_mask (by omega)]
    exact hP
  refine ⟨fun c => ⟨nI n, gI_o ht e1 rfl, s_bitCount (fin _ fun k hk => ?_)⟩, fun c => ⟨nI n, gI_o ht e1 rfl, s_bitCount (fin _ fun k hk => ?_)⟩⟩
  · rw [b2i_0] at c
    rw [b_and, b_and, b_and, b_xor, b_xor, b_xor, bt_mask (by omega) hk, bt_one (by omega) hk, bt_one (by omega) hk, b_m1 k hk, e3 i hi k hk, e3 j hj k hk, c]
    cases g i k <;> cases g j k <;> cases decide (k < n) <;> cases decide (k = i) <;> cases decide (k = j) <;> rfl
  · rw [b2i_0] at c
    have c' : g i j = true := by cases hg : g i j <;> simp [hg] at c ⊢
    rw [b_and, b_and, b_and, b_xor, b_xor, b_xor, b_xor, bt_mask (by omega) hk, bt_one (by omega) hk, bt_one (by omega) hk, b_m1 k hk, e3 i hi k hk, e3 j hj k hk, c']
    cases g i k <;> cases g j k <;> cases decide (k < n) <;> cases decide (k = i) <;> cases decide (k = j) <;> rfl
/-- the sum over all pairs below J of the odd triples that both are in -/
def osum (n : Nat) (g : Nat → Nat → Bool) (J : Nat) : Nat := fb_sm (fun j => fb_sm (fun i => tog n g i j) j) J
theorem osum_le {n : Nat} {g : Nat → Nat → Bool} (hn : n ≤ 10) {J : Nat} (hJ : J ≤ 10) : osum n g J ≤ 1000 := by
  unfold osum
  have h1 : ∀ k, k < J → fb_sm (fun i => tog n g i k) k ≤ 100 := fun k hk => by
    have := fb_sm_bound (f := fun i => tog n g i k) (c := 10) (n := k) (fun i _ => Nat.le_trans (tog_le n g i k) hn)
    omega
  have := fb_sm_bound h1
  omega
theorem l_oddTriples {d : Nat} {P : Int32 → Hp → Prop} {h : Hp} {t a n : Nat} {g : Nat → Nat → Bool} (hn : n ≤ 10) (hT : TB h t a n g) (hP : P (nI (osum n g n) / 3) h) : ∀ (m J : Nat), J + m = n → L_X3_oddTriples_4 (d + 2) P h t (nI (osum n g J)) (nI J) := by
  intro m
  induction m with
  | zero =>
    intro J hJ
    refine r_X3_oddTriples_4 ⟨nI n, gI_o hT.1 hT.2.2.1 rfl, pk_le n J (fun c => ?_) (fun c => absurd c (by omega))⟩
    rw [show J = n by omega]; exact hP
  | succ m ih =>
    intro J hJ
    refine r_X3_oddTriples_4 ⟨nI n, gI_o hT.1 hT.2.2.1 rfl, pk_le n J (fun c => absurd c (by omega)) (fun c => ?_)⟩
    have inner : ∀ (k I : Nat), I + k = J → L_X3_oddTriples_14 (d + 2) P h t (nI (osum n g J + fb_sm (fun i => tog n g i J) I)) (nI J) (nI I) := by
      intro k
      induction k with
      | zero =>
        intro I hI
        refine r_X3_oddTriples_14 (pk_le J I (fun c => ?_) (fun c => absurd c (by omega)))
        rw [nI1]
        have := ih (J + 1) (by omega)
        unfold osum at this ⊢
        rw [fb_sm_succ] at this
        rw [show I = J by omega]
        exact this
      | succ k ihk =>
        intro I hI
        refine r_X3_oddTriples_14 (pk_le J I (fun c => absurd c (by omega)) (fun c => ?_))
        refine s_oddTriplesWith hn (by omega) (by omega) hT ?_
        rw [nI1, nI_add]
        have := ihk (I + 1) (by omega)
        rw [fb_sm_succ, ← Nat.add_assoc] at this
        exact this
    exact inner J 0 (by omega)
theorem s_oddTriples {d : Nat} {P : Int32 → Hp → Prop} {h : Hp} {t a n : Nat} {g : Nat → Nat → Bool} (hn : n ≤ 10) (hT : TB h t a n g) (hP : P (nI (osum n g n / 3)) h) : CI M_X3_oddTriples (d + 3) [.ref t] h P := by
  have hP' : P (nI (osum n g n) / 3) h := by
    rw [show (3 : Int32) = nI 3 from rfl, pk_div (by have := osum_le (g := g) hn hn; omega) (by decide) (by decide)]
    exact hP
  refine e_X3_oddTriples hT.ok ?_
  by_cases q : 1 ≤ n
  · have := l_oddTriples (d := d) hn hT hP' (n - 1) 1 (by omega)
    exact this
  · have hn0 : n = 0 := by omega
    subst hn0
    refine r_X3_oddTriples_4 ⟨nI 0, gI_o hT.1 hT.2.2.1 rfl, pk_le 0 1 (fun c => hP') (fun c => absurd c (by omega))⟩
/-! the signs that are -1 -/
def rsum (g : Nat → Nat → Bool) (n : Nat) : Nat := fb_sm (fun i => fb_ct (g i) 32) n
theorem l_minusSigns {d : Nat} {P : Int32 → Hp → Prop} {h : Hp} {t a n : Nat} {g : Nat → Nat → Bool} (hn : n ≤ 10) (hT : TB h t a n g) (hP : P (nI (rsum g n) / 2) h) : ∀ (m k : Nat), k + m = n → L_X3_minusSigns_4 (d + 1) P h t (nI (rsum g k)) (nI k) := by
  intro m
  induction m with
  | zero =>
    intro k hk
    refine r_X3_minusSigns_4 ⟨nI n, gI_o hT.1 hT.2.2.1 rfl, pk_le n k (fun c => ?_) (fun c => absurd c (by omega))⟩
    rw [show k = n by omega]; exact hP
  | succ m ih =>
    intro k hk
    refine r_X3_minusSigns_4 ⟨nI n, gI_o hT.1 hT.2.2.1 rfl, pk_le n k (fun c => absurd c (by omega)) (fun c => ?_)⟩
    obtain ⟨ht, ha, e1, f, e2, e3⟩ := hT
    refine ⟨a, gR_o ht e1 rfl, f k, lI_o ha e2 (by omega), s_bitCount ?_⟩
    rw [fb_ct_cong (fun j hj => e3 k (by omega) j hj), nI1, nI_add]
    exact ih (k + 1) (by omega)
theorem rsum_le {g : Nat → Nat → Bool} {n : Nat} : rsum g n ≤ n * 32 := fb_sm_bound (fun _ _ => fb_ct_le _ 32)
theorem s_minusSigns {d : Nat} {P : Int32 → Hp → Prop} {h : Hp} {t a n : Nat} {g : Nat → Nat → Bool} (hn : n ≤ 10) (hT : TB h t a n g) (hP : P (nI (rsum g n / 2)) h) : CI M_X3_minusSigns (d + 2) [.ref t] h P := by
  refine e_X3_minusSigns hT.ok (l_minusSigns hn hT ?_ n 0 (by omega))
  rw [show (2 : Int32) = nI 2 from rfl, pk_div (by have := rsum_le (g := g) (n := n); omega) (by decide) (by decide)]
  exact hP
/-! the table of a name -/
def bop (i j : Nat) : Nat := (j - 1) * (j - 2) / 2 + (i - 1)
theorem s_bitOfPair {d : Nat} {P : Int32 → Hp → Prop} {h : Hp} {i j : Nat} (hi : 1 ≤ i) (hij : i < j) (hj : j < 10) (hP : P (nI (bop i j)) h) : CI M_X3_bitOfPair (d + 1) [.int (nI i), .int (nI j)] h P := by
  refine e_X3_bitOfPair ?_
  have h1 : nI j - (1 : Int32) = nI (j - 1) := pk_sub (a := j) (b := 1) (by omega)
  have h2 : nI j - (2 : Int32) = nI (j - 2) := pk_sub (a := j) (b := 2) (by omega)
  have hb : (j - 1) * (j - 2) ≤ 9 * 9 := Nat.mul_le_mul (by omega) (by omega)
  rw [h1, h2, pk_mul, show (2 : Int32) = nI 2 from rfl, pk_div (by omega) (by decide) (by decide), nI_add, show (1 : Int32) = nI 1 from rfl, pk_sub (by omega)]
  unfold bop at hP
  rw [show (j - 1) * (j - 2) / 2 + i - 1 = (j - 1) * (j - 2) / 2 + (i - 1) by omega]
  exact hP
theorem bop_lt {i j : Nat} (hi : 1 ≤ i) (hij : i < j) (hj : j < 7) : bop i j < 15 := by
  have h1 : ∀ j, j < 7 → ∀ i, i < j → 1 ≤ i → bop i j < 15 := by decide +kernel
  exact h1 j hj i hij hi
def nmg (b : Nat → Bool) (J I : Nat) : Nat → Nat → Bool := fun x y =>
  if 1 ≤ x ∧ x < y ∧ (y < J ∨ (y = J ∧ x < I)) then b (bop x y) else if 1 ≤ y ∧ y < x ∧ (x < J ∨ (x = J ∧ y < I)) then b (bop y x) else false
theorem nmg_sy (b : Nat → Bool) (J I x y : Nat) : nmg b J I x y = nmg b J I y x := by
  unfold nmg
  by_cases a1 : 1 ≤ x ∧ x < y ∧ (y < J ∨ (y = J ∧ x < I))
  · rw [if_pos a1, if_neg (by omega), if_pos a1]
  · by_cases a2 : 1 ≤ y ∧ y < x ∧ (x < J ∨ (x = J ∧ y < I))
    · rw [if_neg a1, if_pos a2, if_pos a2]
    · rw [if_neg a1, if_neg a2, if_neg a2, if_neg a1]
theorem nmg_step (b : Nat → Bool) {J I : Nat} (hI : 1 ≤ I) (hIJ : I < J) (x y : Nat) : stg (nmg b J I) I J (b (bop I J)) x y = nmg b J (I + 1) x y := by
  unfold stg nmg
  by_cases a1 : x = I ∧ y = J
  · obtain ⟨rfl, rfl⟩ := a1
    rw [if_pos (Or.inl ⟨rfl, rfl⟩), if_pos (by omega)]
  · by_cases a2 : x = J ∧ y = I
    · obtain ⟨rfl, rfl⟩ := a2
      rw [if_pos (Or.inr ⟨rfl, rfl⟩), if_neg (by omega), if_pos (by omega)]
    · rw [if_neg (by omega)]
      have e1 : (1 ≤ x ∧ x < y ∧ (y < J ∨ (y = J ∧ x < I))) ↔ (1 ≤ x ∧ x < y ∧ (y < J ∨ (y = J ∧ x < I + 1))) := by omega
      have e2 : (1 ≤ y ∧ y < x ∧ (x < J ∨ (x = J ∧ y < I))) ↔ (1 ≤ y ∧ y < x ∧ (x < J ∨ (x = J ∧ y < I + 1))) := by omega
      simp only [e1, e2]
theorem nmg_next (b : Nat → Bool) {J : Nat} (x y : Nat) : nmg b J J x y = nmg b (J + 1) 1 x y := by
  unfold nmg
  have e1 : (1 ≤ x ∧ x < y ∧ (y < J ∨ (y = J ∧ x < J))) ↔ (1 ≤ x ∧ x < y ∧ (y < J + 1 ∨ (y = J + 1 ∧ x < 1))) := by omega
  have e2 : (1 ≤ y ∧ y < x ∧ (x < J ∨ (x = J ∧ y < J))) ↔ (1 ≤ y ∧ y < x ∧ (x < J + 1 ∨ (x = J + 1 ∧ y < 1))) := by omega
  simp only [e1, e2]
/-- the table that a number names: line 0 has all signs 1 -/
def nam (b : Nat → Bool) (n : Nat) : Nat → Nat → Bool := nmg b n 1
theorem wf_nam (b : Nat → Bool) (n : Nat) : WF n (nam b n) := by
  refine ⟨nmg_sy b n 1, fun x => ?_, fun x y hx => ?_⟩
  · unfold nam nmg
    rw [if_neg (by omega), if_neg (by omega)]
  · unfold nam nmg
    rw [if_neg (by omega), if_neg (by omega)]
theorem l_startNamed {d : Nat} {P : Hp → Prop} {t a n : Nat} {x : Int32} (hn : n ≤ 7) (h0 : Hp) (hP : ∀ h', TB h' t a n (nam (bt x) n) → Fr (T2 t a) h0 h' → P h') : ∀ (m J : Nat) (h : Hp), J + m = n → 2 ≤ J → TB h t a n (nmg (bt x) J 1) → Fr (T2 t a) h0 h → L_X3_startNamed_7 (d + 2) P h t (nI n) x (nI J) := by
  intro m
  induction m with
  | zero =>
    intro J h hJ h2 hT hF
    refine r_X3_startNamed_7 (pk_le n J (fun c => ?_) (fun c => absurd c (by omega)))
    rw [show J = n by omega] at hT
    exact hP h hT hF
  | succ m ih =>
    intro J h hJ h2 hT hF
    refine r_X3_startNamed_7 (pk_le n J (fun c => absurd c (by omega)) (fun c => ?_))
    have inner : ∀ (k I : Nat) (h : Hp), I + k = J → 1 ≤ I → TB h t a n (nmg (bt x) J I) → Fr (T2 t a) h0 h → L_X3_startNamed_15 (d + 2) P h t (nI n) x (nI J) (nI I) := by
      intro k
      induction k with
      | zero =>
        intro I h hI h1 hT hF
        refine r_X3_startNamed_15 (pk_le J I (fun c => ?_) (fun c => absurd c (by omega)))
        rw [nI1]
        refine ih (J + 1) h (by omega) (by omega) (hT.eq (fun x _ y _ => ?_)) hF
        rw [show I = J by omega]
        exact nmg_next _ x y
      | succ k ihk =>
        intro I h hI h1 hT hF
        refine r_X3_startNamed_15 (pk_le J I (fun c => absurd c (by omega)) (fun c => ?_))
        refine s_bitOfPair h1 (by omega) (by omega) ?_
        have hb := bop_lt h1 (show I < J by omega) (by omega)
        rw [bt_bit (by omega)]
        have fin : ∀ h4, TB h4 t a n (stg (nmg (bt x) J I) I J (bt x (bop I J))) → Fr (T2 t a) h h4 → L_X3_startNamed_15 (d + 2) P h4 t (nI n) x (nI J) (nI I + (1 : Int32)) := by
          intro h4 hT4 hF4
          rw [nI1]
          exact ihk (I + 1) h4 (by omega) (by omega) (hT4.eq (fun u _ v _ => nmg_step _ h1 (by omega) u v)) (hF.tr hF4)
        cases hbb : bt x (bop I J)
        · rw [hbb] at fin
          refine ⟨fun _ => ?_, fun c => absurd rfl c⟩
          exact s_setMinus (w := false) rfl hT (by omega) (by omega) (by omega) (nmg_sy _ _ _ _ _) fin
        · rw [hbb] at fin
          refine ⟨fun c => absurd c (by decide), fun _ => ?_⟩
          exact s_setMinus (w := true) rfl hT (by omega) (by omega) (by omega) (nmg_sy _ _ _ _ _) fin
    exact inner (J - 1) 1 h (by omega) (by omega) hT hF
theorem s_startNamed {d : Nat} {P : Hp → Prop} {h : Hp} {t a n : Nat} {x : Int32} (hn : n ≤ 7) (hT : TB0 h t a) (hP : ∀ h', TB h' t a n (nam (bt x) n) → Fr (T2 t a) h h' → P h') : CV M_X3_startNamed (d + 3) [.ref t, .int (nI n), .int x] h P := by
  obtain ⟨ht, ha, ⟨v, e1⟩, e2⟩ := hT
  refine e_X3_startNamed ⟨ht, _, e1⟩ (s_start ⟨ht, ha, ⟨v, e1⟩, e2⟩ (fun h1 hT1 hF1 => ?_))
  by_cases q : 2 ≤ n
  · refine l_startNamed hn h hP (n - 2) 2 h1 (by omega) (by omega) (hT1.eq (fun u _ v _ => ?_)) hF1
    unfold nmg
    rw [if_neg (by omega), if_neg (by omega)]
  · refine r_X3_startNamed_7 (pk_le n 2 (fun c => ?_) (fun c => absurd c (by omega)))
    refine hP h1 (hT1.eq (fun u _ v _ => ?_)) hF1
    unfold nam nmg
    rw [if_neg (by omega), if_neg (by omega)]
