/-! ===== regular ===== -/
def allReg (n : Nat) (g : Nat → Nat → Bool) : Prop := ∀ j, j < n → ∀ i, i < j → tog n g i j = tog n g 0 1
theorem l_regX {d : Nat} {P : Int32 → Hp → Prop} {h : Hp} {n a : Nat} {g : Nat → Nat → Bool} {fd : Int32} {sh : Sh} (hn : n ≤ 10) (hC : CX h n g a fd sh) (hP1 : allReg n g → P 1 h) (hP0 : ¬ allReg n g → P 0 h) :
    ∀ (m J : Nat), J + m = n → (∀ j, j < J → ∀ i, i < j → tog n g i j = tog n g 0 1) → L_X4_regular_25 (d + 2) P h 0 (nI (tog n g 0 1)) (nI J) := by
  intro m
  induction m with
  | zero =>
    intro J hJ hall
    refine r_X4_regular_25 ⟨1, g0 hC, nI n, gsz hC, pk_le n J (fun c => ?_) (fun c => absurd c (by omega))⟩
    rw [show J = n by omega] at hall
    exact hP1 hall
  | succ m ih =>
    intro J hJ hall
    refine r_X4_regular_25 ⟨1, g0 hC, nI n, gsz hC, pk_le n J (fun c => absurd c (by omega)) (fun c => ?_)⟩
    have inner : ∀ (k I : Nat), I + k = J → (∀ i, i < I → tog n g i J = tog n g 0 1) → L_X4_regular_38 (d + 2) P h 0 (nI (tog n g 0 1)) (nI J) (nI I) := by
      intro k
      induction k with
      | zero =>
        intro I hI hin
        refine r_X4_regular_38 (pk_le J I (fun c => ?_) (fun c => absurd c (by omega)))
        rw [nI1]
        refine ih (J + 1) (by omega) (fun j hj i hi => ?_)
        by_cases q : j = J
        · subst q; exact hin i (by omega)
        · exact hall j (by omega) i hi
      | succ k ihk =>
        intro I hI hin
        refine r_X4_regular_38 (pk_le J I (fun c => absurd c (by omega)) (fun c => ⟨1, g0 hC, s_oddTriplesWith hn (by omega) (by omega) hC.2.1 ?_⟩))
        refine pk_eq _ _ (fun q => ?_) (fun q => ?_) rfl rfl (by have := tog_le n g I J; omega) (by have := tog_le n g 0 1; omega)
        · rw [nI1]
          refine ihk (I + 1) (by omega) (fun i hi => ?_)
          by_cases q2 : i = I
          · subst q2; exact q
          · exact hin i (by omega)
        · exact hP0 (fun r => q (r J (by omega) I (by omega)))
    exact inner J 0 (by omega) (fun i hi => absurd hi (by omega))
theorem l_regM {d : Nat} {P : Int32 → Hp → Prop} {h : Hp} {n : Nat} {a fd : Int32} {t : Nat → Int32} {g : Nat → Nat → Bool} (hn : n ≤ 10) (hm : h 32 = mo (nI n) a fd) (ht : h 33 = iA 100 t) (hT : TM t n g) (hP1 : allReg n g → P 1 h) (hP0 : ¬ allReg n g → P 0 h) :
    ∀ (m I : Nat), I + m = n → (∀ i, i < I → ∀ j, i < j → j < n → tog n g i j = tog n g 0 1) → L_X5_regular_2 (d + 2) P h 32 (nI I) := by
  intro m
  induction m with
  | zero =>
    intro I hI hall
    refine r_X5_regular_2 ⟨nI n, gI_o (by decide) hm rfl, pk_le n I (fun c => ?_) (fun c => absurd c (by omega))⟩
    exact hP1 (fun j hj i hi => hall i (by omega) j hi hj)
  | succ m ih =>
    intro I hI hall
    refine r_X5_regular_2 ⟨nI n, gI_o (by decide) hm rfl, pk_le n I (fun c => absurd c (by omega)) (fun c => ?_)⟩
    have inner : ∀ (k J : Nat), J + k = n → I < J → (∀ j, I < j → j < J → tog n g I j = tog n g 0 1) → L_X5_regular_14 (d + 2) P h 32 (nI I) (nI J) := by
      intro k
      induction k with
      | zero =>
        intro J hJ hIJ hin
        refine r_X5_regular_14 ⟨nI n, gI_o (by decide) hm rfl, pk_le n J (fun c => ?_) (fun c => absurd c (by omega))⟩
        rw [nI1]
        refine ih (I + 1) (by omega) (fun i hi j hij hj => ?_)
        by_cases q : i = I
        · subst q; exact hin j hij (by omega)
        · exact hall i (by omega) j hij hj
      | succ k ihk =>
        intro J hJ hIJ hin
        refine r_X5_regular_14 ⟨nI n, gI_o (by decide) hm rfl, pk_le n J (fun c => absurd c (by omega)) (fun c => ?_)⟩
        refine s_togetherM hn (by omega) (by omega) (by omega) hm ht hT (s_togetherM (i := 0) (j := 1) hn (by omega) (by omega) (by omega) hm ht hT ?_)
        refine pk_eq _ _ (fun q => ?_) (fun q => ?_) rfl rfl (by have := tog_le n g I J; omega) (by have := tog_le n g 0 1; omega)
        · rw [nI1]
          refine ihk (J + 1) (by omega) (by omega) (fun j h1 h2 => ?_)
          by_cases q2 : j = J
          · subst q2; exact q
          · exact hin j h1 (by omega)
        · exact hP0 (fun r => q (r J (by omega) I (by omega)))
    rw [nI1]
    exact inner (n - (I + 1)) (I + 1) (by omega) (by omega) (fun j h1 h2 => absurd h1 (by omega))
theorem op_regular {n a : Nat} {g : Nat → Nat → Bool} {fd : Int32} {sh : Sh} (G : Gd n g a sh) : OpI M_X4_regular M_X5_regular [] n g a fd sh := by
  have hn := G.1
  obtain ⟨r, h1, h0⟩ : ∃ r : Int32, (allReg n g → r = 1) ∧ (¬ allReg n g → r = 0) := by
    by_cases q : allReg n g
    · exact ⟨1, fun _ => rfl, fun c => absurd q c⟩
    · exact ⟨0, fun c => absurd c q, fun _ => rfl⟩
  refine ⟨r, n, g, a, fd, sh, G, fun d h P hC hP => ?_, fun d h P hM hP => ?_⟩
  · have hP1 : allReg n g → P 1 h := fun q => h1 q ▸ hP h hC Fr.rf
    have hP0 : ¬ allReg n g → P 0 h := fun q => h0 q ▸ hP h hC Fr.rf
    refine e_X4_regular hC.ok ⟨1, g0 hC, nI n, gsz hC, pk_le 2 n (fun c => ⟨1, g0 hC, ?_⟩) (fun c => hP1 (fun j hj i hi => absurd c (by omega)))⟩
    refine s_oddTriplesWith (i := 0) (j := 1) hn (by decide) (by decide) hC.2.1 ?_
    exact l_regX hn hC hP1 hP0 (n - 1) 1 (by omega) (fun j hj i hi => absurd hi (by omega))
  · obtain ⟨t, ht, hT⟩ := hM.2.1
    exact e_X5_regular (mo_ok hM.1) (l_regM hn hM.1 ht hT (fun q => h1 q ▸ hP h hM Fr.rf) (fun q => h0 q ▸ hP h hM Fr.rf) n 0 (by omega) (fun i hi => absurd hi (by omega)))
/-! ===== angle ===== -/
theorem CX.set0 {h : Hp} {n a a' : Nat} {g : Nat → Nat → Bool} {fd fd' : Int32} {sh : Sh} (x : CX h n g a fd sh) : CX (hu h 0 (eo (nI a') fd')) n g a' fd' sh := by
  obtain ⟨a1, a2, a3, a4, a5, a6⟩ := x
  have e : ∀ k, k ≠ 0 → hu h 0 (eo (nI a') fd') k = h k := fun k hk => hu_n hk
  exact ⟨hu_s, a2.same (e 1 (by decide)) (e 2 (by decide)), a3.eq (e 3 (by decide)) (e 4 (by decide)), a4.eq (fun k _ _ => e k (by omega)), a5.eq (fun k _ _ => e k (by omega)), a6.eq (fun k _ _ => e k (by omega))⟩
theorem MX.set32 {h : Hp} {n a a' : Nat} {g : Nat → Nat → Bool} {fd fd' : Int32} {sh : Sh} (x : MX h n g a fd sh) : MX (hu h 32 (mo (nI n) (nI a') fd')) n g a' fd' sh := by
  obtain ⟨a1, a2, a3, a4⟩ := x
  have e : ∀ k, k ≠ 32 → hu h 32 (mo (nI n) (nI a') fd') k = h k := fun k hk => hu_n hk
  exact ⟨hu_s, by rw [e 33 (by decide)]; exact a2, a3.eq (fun k _ _ _ => e k (by omega)), a4.eq (fun k _ _ => e k (by omega))⟩
theorem op_angle {n a : Nat} {g : Nat → Nat → Bool} {fd : Int32} {sh : Sh} (G : Gd n g a sh) (x : Int32) : OpI M_X4_angle M_X5_angle [.int x] n g a fd sh := by
  by_cases hV : ¬ x < 3 ∧ ¬ 9 < x ∧ ¬ irem x 2 = 0
  · obtain ⟨m, hm, rfl⟩ : ∃ m, (m = 3 ∨ m = 5 ∨ m = 7 ∨ m = 9) ∧ x = nI m := by
      rcases pk_ix x (n := 10) (by decide) with q | q | ⟨m, hm, rfl⟩
      · exfalso
        apply hV.1
        rw [Int32.lt_iff_toInt_lt] at q ⊢
        have : (3 : Int32).toInt = 3 := by decide
        have : (0 : Int32).toInt = 0 := by decide
        omega
      · exfalso
        apply hV.2.1
        rw [Int32.lt_iff_toInt_lt]
        rw [Int32.le_iff_toInt_le, nI_toInt (by decide)] at q
        have : (9 : Int32).toInt = 9 := by decide
        omega
      · have key : ∀ m, m < 10 → (¬ nI m < 3 ∧ ¬ 9 < nI m ∧ ¬ irem (nI m) 2 = 0) → (m = 3 ∨ m = 5 ∨ m = 7 ∨ m = 9) := by decide +kernel
        exact ⟨m, key m hm hV, rfl⟩
    refine ⟨nI a, n, g, m, fd, sh, ⟨G.1, G.2.1, hm, G.2.2.2⟩, fun d h P hC hP => ?_, fun d h P hM hP => ?_⟩
    · refine e_X4_angle hC.ok ⟨fun c => absurd c hV.1, fun _ => ⟨fun c => absurd c hV.2.1, fun _ => ⟨fun _ => ⟨nI a, gan hC, _, sF_o (by decide) hC.1 (by simp), ?_⟩, fun c => absurd c hV.2.2⟩⟩⟩
      exact hP _ hC.set0 (Fr.hu (S := CC32) (by decide))
    · refine e_X5_angle (mo_ok hM.1) (s_in (zb (fun c => ?_) (fun _ => ⟨fun _ => ⟨nI a, man hM, _, sF_o (by decide) hM.1 (by simp), ?_⟩, fun c => absurd c hV.2.2⟩)))
      · exact absurd ⟨Int32.not_lt.mp hV.1, Int32.not_lt.mp hV.2.1⟩ (of_decide_eq_false c)
      · exact hP _ hM.set32 (Fr.hu (S := MM32) (by decide))
  · refine ⟨-2, n, g, a, fd, sh, G, fun d h P hC hP => ?_, fun d h P hM hP => ?_⟩
    · exact e_X4_angle hC.ok ⟨fun c => hP h hC Fr.rf, fun c => ⟨fun _ => hP h hC Fr.rf, fun c2 => ⟨fun c3 => absurd ⟨c, c2, c3⟩ hV, fun _ => hP h hC Fr.rf⟩⟩⟩
    · refine e_X5_angle (mo_ok hM.1) (s_in (zb (fun c => hP h hM Fr.rf) (fun c => ⟨fun c2 => ?_, fun _ => hP h hM Fr.rf⟩)))
      have := of_decide_eq_true c
      exact absurd ⟨Int32.not_lt.mpr this.1, Int32.not_lt.mpr this.2, c2⟩ hV
/-! ===== bound ===== -/
theorem s_isDim {d : Nat} {P : Int32 → Hp → Prop} {h : Hp} {x : Int32} (hP : P (b2i (decide (1 ≤ x ∧ x ≤ 20))) h) : CI M_X4_isDimension (d + 1) [.int x] h P := by
  refine e_X4_isDimension ⟨fun c => ?_, fun c => ⟨fun c2 => ?_, fun c2 => ?_⟩⟩
  · rw [show decide (1 ≤ x ∧ x ≤ 20) = false by simp [Int32.not_le.mpr c]] at hP; exact hP
  · rw [show decide (1 ≤ x ∧ x ≤ 20) = false by simp [Int32.not_le.mpr c2]] at hP; exact hP
  · rw [show decide (1 ≤ x ∧ x ≤ 20) = true by simp [Int32.not_lt.mp c, Int32.not_lt.mp c2]] at hP; exact hP
theorem dim_nat {x : Int32} (h : decide (1 ≤ x ∧ x ≤ 20) = true) : ∃ m, 1 ≤ m ∧ m ≤ 20 ∧ x = nI m := by
  have h := of_decide_eq_true h
  rcases pk_ix x (n := 21) (by decide) with q | q | ⟨m, hm, rfl⟩
  · exfalso
    have h1 := Int32.le_iff_toInt_le.mp h.1
    rw [Int32.lt_iff_toInt_lt] at q
    have : (1 : Int32).toInt = 1 := by decide
    have : (0 : Int32).toInt = 0 := by decide
    omega
  · exfalso
    have h1 := Int32.le_iff_toInt_le.mp h.2
    rw [Int32.le_iff_toInt_le, nI_toInt (by decide)] at q
    have : (20 : Int32).toInt = 20 := by decide
    omega
  · refine ⟨m, ?_, by omega, rfl⟩
    exact (nI_leI (a := 1) (b := m) (by decide) (by omega)).mp h.1
theorem op_bound {n a : Nat} {g : Nat → Nat → Bool} {fd : Int32} {sh : Sh} (G : Gd n g a sh) (x : Int32) : OpI M_X4_bound M_X5_bound [.int x] n g a fd sh := by
  cases hb : decide ((1 : Int32) ≤ x ∧ x ≤ 20)
  · refine ⟨-2, n, g, a, fd, sh, G, fun d h P hC hP => ?_, fun d h P hM hP => ?_⟩
    · exact e_X4_bound hC.ok (s_isDim (bz (fun c => absurd (hb.symm.trans c) (by decide)) (fun _ => hP h hC Fr.rf)))
    · exact e_X5_bound (mo_ok hM.1) (s_in (bz (fun c => absurd (hb.symm.trans c) (by decide)) (fun _ => hP h hM Fr.rf)))
  · obtain ⟨m, hm1, hm2, rfl⟩ := dim_nat hb
    have ha : a < 10 := by rcases G.2.2.1 with q | q | q | q <;> omega
    have ha2 : a * a < 100 := by rcases G.2.2.1 with q | q | q | q <;> subst q <;> decide
    have esq : nI a * nI a = nI (a * a) := pk_mul a a
    by_cases q : a * a ≤ m
    · refine ⟨(nI m * (nI m + 1)) / 2, n, g, a, fd, sh, G, fun d h P hC hP => ?_, fun d h P hM hP => ?_⟩
      · refine e_X4_bound hC.ok (s_isDim (bz (fun _ => ⟨nI a, gan hC, nI a, gan hC, ?_⟩) (fun c => absurd (hb.symm.trans c) (by decide))))
        rw [esq]
        exact pk_lt m (a * a) (fun c => absurd c (by omega)) (fun _ => hP h hC Fr.rf)
      · refine e_X5_bound (mo_ok hM.1) (s_in (bz (fun _ => ⟨nI a, man hM, nI a, man hM, ?_⟩) (fun c => absurd (hb.symm.trans c) (by decide))))
        rw [esq]
        exact pk_le (a * a) m (fun _ => ⟨fun _ => hP h hM Fr.rf, fun _ => hP h hM Fr.rf⟩) (fun c => absurd c (by omega))
    · have hne : ¬ nI (a * a) - nI m = 0 := by
        rw [pk_sub (by omega)]
        exact nI_ne0 (by omega) (by omega)
      refine ⟨if (nI m * (nI (a * a) - 1)) / (nI (a * a) - nI m) < (nI m * (nI m + 1)) / 2 then (nI m * (nI (a * a) - 1)) / (nI (a * a) - nI m) else (nI m * (nI m + 1)) / 2, n, g, a, fd, sh, G, fun d h P hC hP => ?_, fun d h P hM hP => ?_⟩
      · refine e_X4_bound hC.ok (s_isDim (bz (fun _ => ⟨nI a, gan hC, nI a, gan hC, ?_⟩) (fun c => absurd (hb.symm.trans c) (by decide))))
        rw [esq]
        exact pk_lt m (a * a) (fun _ => ⟨hne, hP h hC Fr.rf⟩) (fun c => absurd c (by omega))
      · refine e_X5_bound (mo_ok hM.1) (s_in (bz (fun _ => ⟨nI a, man hM, nI a, man hM, ?_⟩) (fun c => absurd (hb.symm.trans c) (by decide))))
        rw [esq]
        refine pk_le (a * a) m (fun c => absurd c (by omega)) (fun _ => ⟨hne, fun c => ?_, fun c => ?_⟩)
        · have := hP h hM Fr.rf
          rw [if_neg (Int32.not_lt.mpr c)] at this
          exact this
        · have := hP h hM Fr.rf
          rw [if_pos (Int32.not_le.mp c)] at this
          exact this
/-! ===== put ===== -/
theorem shr_bit {x : Int32} {i : Nat} (hi : i < 32) : (ishr x (nI i)) &&& (1 : Int32) = b2i (bt x i) := by
  have e0 : bt (ishr x (nI i)) 0 = bt x i := by
    have := b_sshr i hi x (i := 0) (by decide)
    rw [if_pos (by omega)] at this
    exact this
  apply b_ext
  intro k hk
  rw [b_and, bt_1']
  unfold b2i
  by_cases q : k = 0
  · subst q
    rw [e0]
    cases bt x i <;> simp [bt_1', b_0]
  · cases bt x i <;> simp [bt_1', b_0, q]
theorem irem2 {N : Nat} (h : N < 2 ^ 31) : irem (nI N) 2 = nI (N % 2) := pk_rem (d := 2) h (by decide) (by decide)
theorem ishl1 {n : Nat} (hn : n < 31) : ishl 1 (nI n) = nI (2 ^ n) := by
  have h2 : (2 : Nat) ^ n < 2 ^ 31 := Nat.pow_lt_pow_right (by decide) hn
  have := pk_shlN (n := 1) (nI n &&& 31) n (s_l n (by omega)) (by omega)
  rw [Nat.one_mul] at this
  exact this
theorem uI_neg {x : Int32} (h : x < 0) : 2 ^ 31 ≤ uI x := by
  obtain ⟨N, hN, rfl⟩ := wb_of32 x
  rw [uI_n hN]
  refine Nat.not_lt.mp (fun q => ?_)
  exact nI_pos q h
theorem s_isRowM {d : Nat} {P : Int32 → Hp → Prop} {h : Hp} {n a : Nat} {g : Nat → Nat → Bool} {fd x : Int32} {sh : Sh} (hn : n ≤ 10) (hM : MX h n g a fd sh) (hP : P (b2i (rowOk n x)) h) : CI M_X5_isRow (d + 1) [.ref 32, .int x] h P := by
  have hp : (2 : Nat) ^ n ≤ 2 ^ 10 := Nat.pow_le_pow_right (by decide) hn
  refine e_X5_isRow (mo_ok hM.1) ⟨fun c => ?_, fun c => ⟨nI n, m0 hM, ?_⟩⟩
  · have h1 := uI_neg c
    unfold rowOk at hP
    rw [show decide (uI x < 2 ^ n ∧ uI x % 2 = 0) = false by simp; omega] at hP
    exact hP
  · obtain ⟨N, hN, rfl⟩ := nI_of c
    unfold rowOk at hP
    rw [uI_n (by omega)] at hP
    rw [ishl1 (by omega), irem2 hN]
    refine pk_le (2 ^ n) N (fun q => ?_) (fun q => ⟨fun q2 => ?_, fun q2 => ?_⟩)
    · rw [show decide (N < 2 ^ n ∧ N % 2 = 0) = false by simp; omega] at hP; exact hP
    · have q2' : ¬ N % 2 = 0 := fun r => q2 (by rw [r]; rfl)
      rw [show decide (N < 2 ^ n ∧ N % 2 = 0) = false by simp [q2']] at hP; exact hP
    · have q2' : N % 2 = 0 := by
        rcases Nat.mod_two_eq_zero_or_one N with r | r
        · exact r
        · rw [r] at q2; exact absurd q2 (by decide)
      rw [show decide (N < 2 ^ n ∧ N % 2 = 0) = true by simp [q2', q]] at hP; exact hP
/-- the reference's table holds n lines, and the first k signs of one line more -/
def RM (t : Nat → Int32) (n : Nat) (g : Nat → Nat → Bool) (b : Nat → Bool) (k : Nat) : Prop := TM t n g ∧ ∀ i, i < k → t (10 * n + i) = pm (b i) ∧ t (10 * i + n) = pm (b i)
theorem RM.set {t : Nat → Int32} {n k : Nat} {g : Nat → Nat → Bool} {b : Nat → Bool} (hn : n < 10) (hk : k < n) (h : RM t n g b k) {v : Int32} (hv : v = pm (b k)) : RM (upd (upd t (10 * n + k) v) (10 * k + n) v) n g b (k + 1) := by
  refine ⟨⟨fun x hx => by rw [upd2d (by omega) (by omega) (by omega) hx]; exact h.1.1 x hx, fun x y hx hy hxy => ?_⟩, fun i hi => ⟨?_, ?_⟩⟩
  · rw [upd2 (by omega) (by omega) (by omega) (by omega), if_neg (by omega)]; exact h.1.2 x y hx hy hxy
  · rw [upd2 (by omega) (by omega) (by omega) (by omega)]
    by_cases q : i = k
    · subst q; rw [if_pos (Or.inl ⟨rfl, rfl⟩), hv]
    · rw [if_neg (by omega)]; exact (h.2 i (by omega)).1
  · rw [upd2 (by omega) (by omega) (by omega) (by omega)]
    by_cases q : i = k
    · subst q; rw [if_pos (Or.inr ⟨rfl, rfl⟩), hv]
    · rw [if_neg (by omega)]; exact (h.2 i (by omega)).2
theorem RM.full {t : Nat → Int32} {n : Nat} {g : Nat → Nat → Bool} {b : Nat → Bool} (h : RM t n g b n) : TM t (n + 1) (adg g b n n) := by
  refine ⟨h.1.1, fun x y hx hy hxy => ?_⟩
  unfold adg
  by_cases q : x = n
  · subst q
    rw [if_pos ⟨rfl, by omega⟩]; exact (h.2 y (by omega)).1
  · rw [if_neg (fun r => q r.1)]
    by_cases q2 : y = n
    · subst q2
      rw [if_pos ⟨rfl, by omega⟩]; exact (h.2 x (by omega)).2
    · rw [if_neg (fun r => q2 r.1)]; exact h.1.2 x y (by omega) (by omega) hxy
theorem bitcases {x : Int32} {k : Nat} (hk : k < 32) {A B : Prop} (f : bt x k = false → A) (t : bt x k = true → B) : (¬ ((ishr x (nI k)) &&& (1 : Int32)) = 1 → A) ∧ (((ishr x (nI k)) &&& (1 : Int32)) = 1 → B) := by
  rw [shr_bit hk]
  unfold b2i
  cases hb : bt x k
  · exact ⟨fun _ => f hb, fun c => absurd c (by decide)⟩
  · exact ⟨fun c => absurd rfl c, fun _ => t hb⟩
theorem l_putM {d : Nat} {P : Int32 → Hp → Prop} {n : Nat} {a fd x : Int32} {g : Nat → Nat → Bool} (hn : n < 10) (h0 : Hp) (hP : ∀ h' t', h' 32 = mo (nI (n + 1)) a fd → h' 33 = iA 100 t' → TM t' (n + 1) (adg g (bt x) n n) → Fr M2 h0 h' → P (nI n) h') :
    ∀ (m k : Nat) (h : Hp) (t : Nat → Int32), k + m = n → h 32 = mo (nI n) a fd → h 33 = iA 100 t → RM t n g (bt x) k → Fr M2 h0 h → L_X5_put_25 (d + 1) P h 32 x (nI k) := by
  intro m
  induction m with
  | zero =>
    intro k h t hk hm ht hR hF
    refine r_X5_put_25 ⟨nI n, gI_o (by decide) hm rfl, pk_le n k (fun c => ?_) (fun c => absurd c (by omega))⟩
    have : k = n := by omega
    subst this
    have e : hu h 32 (mo (nI k + 1) a fd) 32 = mo (nI (k + 1)) a fd := by rw [hu_s, nI1]
    refine ⟨nI k, gI_o (by decide) hm rfl, _, sF_o (by decide) hm (by simp), nI (k + 1), gI_o (by decide) e rfl, ?_⟩
    rw [show nI (k + 1) - 1 = nI k from nI_pred k]
    exact hP _ t e (by show hu h 32 _ 33 = _; rw [hu_n (by decide)]; exact ht) hR.full (hF.tr (Fr.hu (S := M2) (Or.inl rfl)))
  | succ m ih =>
    intro k h t hk hm ht hR hF
    have fin : ∀ v, v = pm (bt x k) → CV M_X5_set (d + 1) [.ref 32, .int (nI n), .int (nI k), .int v] h (fun h6 => L_X5_put_25 (d + 1) P h6 32 x (nI k + (1 : Int32))) := fun v hv => by
      refine s_setM hm ht (by omega) (by omega) (fun h' ht' hF' => ?_)
      rw [nI1]
      exact ih (k + 1) h' _ (by omega) (by rw [hF' 32 (by decide)]; exact hm) ht' (hR.set hn (by omega) hv) (hF.tr (hF'.mono M12))
    refine r_X5_put_25 ⟨nI n, gI_o (by decide) hm rfl, pk_le n k (fun c => absurd c (by omega)) (fun c => ⟨nI n, gI_o (by decide) hm rfl, bitcases (by omega) (fun q => fin 1 (by rw [q]; rfl)) (fun q => fin (-1) (by rw [q]; rfl))⟩)⟩
theorem op_put {n a : Nat} {g : Nat → Nat → Bool} {fd : Int32} {sh : Sh} (G : Gd n g a sh) (x : Int32) : OpI M_X4_put M_X5_put [.int x] n g a fd sh := by
  have hn := G.1
  cases hr : rowOk n x
  · refine ⟨-2, n, g, a, fd, sh, G, fun d h P hC hP => ?_, fun d h P hM hP => ?_⟩
    · exact e_X4_put hC.ok ⟨1, g0 hC, s_isRow hn hC.2.1 (bz (fun c => absurd (hr.symm.trans c) (by decide)) (fun _ => hP h hC Fr.rf))⟩
    · exact e_X5_put (mo_ok hM.1) (s_isRowM hn hM (bz (fun c => absurd (hr.symm.trans c) (by decide)) (fun _ => hP h hM Fr.rf)))
  · by_cases q : n = 10
    · refine ⟨-4, n, g, a, fd, sh, G, fun d h P hC hP => ?_, fun d h P hM hP => ?_⟩
      · exact e_X4_put hC.ok ⟨1, g0 hC, s_isRow hn hC.2.1 (bz (fun _ => ⟨1, g0 hC, nI n, gsz hC, pk_lt n 10 (fun c => absurd c (by omega)) (fun _ => hP h hC Fr.rf)⟩) (fun c => absurd (hr.symm.trans c) (by decide)))⟩
      · exact e_X5_put (mo_ok hM.1) (s_isRowM hn hM (bz (fun _ => ⟨nI n, m0 hM, pq_ne n 10 (fun c => absurd q c) (fun _ => hP h hM Fr.rf)⟩) (fun c => absurd (hr.symm.trans c) (by decide))))
    · refine ⟨nI n, n + 1, adg g (bt x) n n, a, fd, sh, ⟨by omega, wf_add G.2.1, G.2.2⟩, fun d h P hC hP => ?_, fun d h P hM hP => ?_⟩
      · refine e_X4_put hC.ok ⟨1, g0 hC, s_isRow hn hC.2.1 (bz (fun _ => ⟨1, g0 hC, nI n, gsz hC, pk_lt n 10 (fun _ => ⟨1, g0 hC, s_addLine (by omega) G.2.1 hC.2.1 (fun h' hT hF => ?_)⟩) (fun c => absurd c (by omega))⟩) (fun c => absurd (hr.symm.trans c) (by decide)))⟩
        have hC' := hC.tab hT hF
        refine ⟨1, g0 hC', nI (n + 1), gsz hC', ?_⟩
        rw [show nI (n + 1) - 1 = nI n from nI_pred n]
        exact hP h' hC' (hF.mono (fun _ => T2C))
      · obtain ⟨t, ht, hT⟩ := hM.2.1
        refine e_X5_put (mo_ok hM.1) (s_isRowM hn hM (bz (fun _ => ⟨nI n, m0 hM, pq_ne n 10 (fun _ => ?_) (fun c => absurd c q)⟩) (fun c => absurd (hr.symm.trans c) (by decide))))
        exact l_putM (by omega) h (fun h' t' e1 e2 e3 e4 => hP h' (hM.tab e1 e2 e3 e4) (e4.mono (fun _ => M2C))) n 0 h t (by omega) hM.1 ht ⟨hT, fun i hi => absurd hi (by omega)⟩ Fr.rf
