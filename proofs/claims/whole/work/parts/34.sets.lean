/-! ===== sets ===== -/
theorem in2 {x : Int32} {lo hi : Nat} (hh : hi < 2 ^ 30) (hl : lo ≤ hi) : decide (nI lo ≤ x ∧ x ≤ nI hi) = true → ∃ m, lo ≤ m ∧ m ≤ hi ∧ x = nI m := by
  intro h
  have h := of_decide_eq_true h
  rcases pk_ix x (n := hi + 1) (by omega) with q | q | ⟨m, hm, rfl⟩
  · exfalso
    have h1 := Int32.le_iff_toInt_le.mp h.1
    rw [nI_toInt (by omega)] at h1
    rw [Int32.lt_iff_toInt_lt] at q
    have : (0 : Int32).toInt = 0 := by decide
    omega
  · exfalso
    have h1 := Int32.le_iff_toInt_le.mp h.2
    rw [nI_toInt (by omega)] at h1
    rw [Int32.le_iff_toInt_le, nI_toInt (by omega)] at q
    omega
  · exact ⟨m, (nI_leI (by omega) (by omega)).mp h.1, by omega, rfl⟩
theorem in2' {m lo hi : Nat} (hh : hi < 2 ^ 30) (h1 : lo ≤ m) (h2 : m ≤ hi) : decide (nI lo ≤ nI m ∧ nI m ≤ nI hi) = true := by
  simp [nI_le h1 (show m < 2 ^ 31 by omega), nI_le h2 (show hi < 2 ^ 31 by omega)]
def isR (x : Int32) : Bool := decide (nI 2 ≤ x ∧ x ≤ nI 31)
theorem s_isRound {d : Nat} {P : Int32 → Hp → Prop} {h : Hp} {x : Int32} (hP : P (b2i (isR x)) h) : CI M_X4_isRound (d + 1) [.int x] h P := by
  unfold isR at hP
  refine e_X4_isRound ⟨fun c => ?_, fun c => ⟨fun c2 => ?_, fun c2 => ?_⟩⟩
  · rw [show decide (nI 2 ≤ x ∧ x ≤ nI 31) = false by simp [show ¬ nI 2 ≤ x from Int32.not_le.mpr c]] at hP; exact hP
  · rw [show decide (nI 2 ≤ x ∧ x ≤ nI 31) = false by simp [show ¬ x ≤ nI 31 from Int32.not_le.mpr c2]] at hP; exact hP
  · rw [show decide (nI 2 ≤ x ∧ x ≤ nI 31) = true by simp [show nI 2 ≤ x from Int32.not_lt.mp c, show x ≤ nI 31 from Int32.not_lt.mp c2]] at hP; exact hP
def isS (v x : Int32) : Bool := isR v && decide (uI x < 2 ^ uI v)
theorem isR_n {v : Int32} (h : isR v = true) : ∃ m, 2 ≤ m ∧ m ≤ 31 ∧ v = nI m := in2 (by decide) (by decide) h
theorem s_isSetX {d : Nat} {P : Int32 → Hp → Prop} {h : Hp} {v x : Int32} (hP : P (b2i (isS v x)) h) : CI M_X4_isSet (d + 2) [.int v, .int x] h P := by
  unfold isS at hP
  refine e_X4_isSet (s_isRound (zb (fun c => ?_) (fun c => ?_)))
  · rw [c] at hP; exact hP
  · obtain ⟨m, h1, h2, rfl⟩ := isR_n c
    rw [c, Bool.true_and, uI_n (by omega)] at hP
    obtain ⟨N, hN, rfl⟩ := wb_of32 x
    rw [uI_n hN] at hP
    have e2 : iushr (nI N) (nI m) = 0 ↔ N < 2 ^ m := by
      have hp : 0 < 2 ^ m := Nat.two_pow_pos m
      rw [iushr_nI hN (by omega), nI_z (Nat.lt_of_le_of_lt (Nat.div_le_self _ _) hN), Nat.div_eq_zero_iff]
      omega
    rw [e2]
    refine ⟨fun q => ?_, fun q => ?_⟩
    · rw [show decide (N < 2 ^ m) = false by simp; omega] at hP; exact hP
    · rw [show decide (N < 2 ^ m) = true by simp [q]] at hP; exact hP
theorem s_isSetM {d : Nat} {P : Int32 → Hp → Prop} {h : Hp} {v x : Int32} (hP : P (b2i (isS v x)) h) : CI M_X5_isSet (d + 2) [.int v, .int x] h P := by
  unfold isS at hP
  refine e_X5_isSet (s_in (zb (fun c => ?_) (fun c => ?_)))
  · rw [show isR v = false from c] at hP; exact hP
  · have c : isR v = true := c
    obtain ⟨m, h1, h2, rfl⟩ := isR_n c
    rw [c, Bool.true_and, uI_n (by omega)] at hP
    have hp : (2 : Nat) ^ m ≤ 2 ^ 31 := Nat.pow_le_pow_right (by decide) h2
    refine ⟨fun q => ?_, fun q => ?_⟩
    · have := uI_neg q
      rw [show decide (uI x < 2 ^ m) = false by simp; omega] at hP; exact hP
    · obtain ⟨N, hN, rfl⟩ := nI_of q
      rw [uI_n (by omega)] at hP
      refine pk_eq m 31 (fun q2 => ?_) (fun q2 => ?_)
      · subst q2
        rw [show decide (N < 2 ^ 31) = true by simp; omega] at hP; exact hP
      · have hm : m < 31 := by omega
        have hp2 : (2 : Nat) ^ m < 2 ^ 31 := Nat.pow_lt_pow_right (by decide) hm
        rw [ishl1 hm]
        refine pk_le (2 ^ m) N (fun q3 => ?_) (fun q3 => ?_)
        · rw [show decide (N < 2 ^ m) = false by simp; omega] at hP; exact hP
        · rw [show decide (N < 2 ^ m) = true by simp [q3]] at hP; exact hP
/-- a set within a round of v: its bits -/
def St (v : Nat) (x : Int32) : Prop := 2 ≤ v ∧ v ≤ 31 ∧ ∀ i, v ≤ i → bt x i = false
theorem isS_t {v x : Int32} (h : isS v x = true) : ∃ m, v = nI m ∧ St m x := by
  unfold isS at h
  rw [Bool.and_eq_true] at h
  obtain ⟨m, h1, h2, rfl⟩ := isR_n h.1
  refine ⟨m, rfl, h1, h2, fun i hi => ?_⟩
  have h3 := of_decide_eq_true h.2
  rw [uI_n (by omega)] at h3
  by_cases q : i < 32
  · rw [uI_e x, bt_nI q]
    exact Nat.testBit_lt_two_pow (Nat.lt_of_lt_of_le h3 (Nat.pow_le_pow_right (by decide) hi))
  · exact b_big (by omega)
def ht (v : Nat) (b : Nat → Bool) (s : Nat) : Nat := fb_ct (fun x => b x && b ((x + s) % v)) v
theorem ct_rot (p : Nat → Bool) {v s : Nat} (hs : s ≤ v) (hv : 0 < v) : fb_ct (fun i => p ((i + s) % v)) v = fb_ct p v := by
  have h1 : fb_ct (fun i => p ((i + s) % v)) v = fb_ct (fun i => p ((i + s) % v)) ((v - s) + s) := by rw [show (v - s) + s = v by omega]
  have h2 : fb_ct p v = fb_ct p (s + (v - s)) := by rw [show s + (v - s) = v by omega]
  rw [h1, h2, fb_ct_split, fb_ct_split]
  have e1 : fb_ct (fun i => p ((i + s) % v)) (v - s) = fb_ct (fun k => p (s + k)) (v - s) := fb_ct_cong (fun k hk => by rw [Nat.mod_eq_of_lt (by omega), Nat.add_comm])
  have e2 : fb_ct (fun k => p ((v - s + k + s) % v)) s = fb_ct p s := fb_ct_cong (fun k hk => by
    rw [show v - s + k + s = k + v by omega, Nat.add_mod_right]
    by_cases q : s = v
    · rw [Nat.mod_eq_of_lt (by omega)]
    · rw [Nat.mod_eq_of_lt (by omega)])
  rw [e1, e2, Nat.add_comm]
theorem ht_le (v : Nat) (b : Nat → Bool) (s : Nat) : ht v b s ≤ v := fb_ct_le _ v
theorem bt_all {v i : Nat} (h1 : 1 ≤ v) (h2 : v ≤ 31) (hi : i < 32) : bt (iushr (-1) ((32 : Int32) - nI v)) i = decide (i < v) := by
  rw [show (32 : Int32) - nI v = nI (32 - v) from pk_sub (a := 32) (by omega), bt_ushr (by omega)]
  by_cases q : i < v
  · rw [b_m1 _ (by omega)]; simp [q]
  · rw [b_big (by omega)]; simp [q]
theorem s_allOfRound {d : Nat} {P : Int32 → Hp → Prop} {h : Hp} {v : Nat} (h1 : 1 ≤ v) (h2 : v ≤ 31) (hP : ∀ z : Int32, (∀ i, i < 32 → bt z i = decide (i < v)) → P z h) : CI M_X4_allOfRound (d + 1) [.int (nI v)] h P :=
  e_X4_allOfRound (hP _ (fun i hi => bt_all h1 h2 hi))
theorem s_movedRound {d : Nat} {P : Int32 → Hp → Prop} {h : Hp} {v s : Nat} {x : Int32} (hS : St v x) (hs : s < v) (hP : ∀ z : Int32, (∀ i, i < 32 → bt z i = (decide (i < v) && bt x ((i + (v - s)) % v))) → P z h) : CI M_X4_movedRound (d + 2) [.int (nI v), .int x, .int (nI s)] h P := by
  obtain ⟨h1, h2, h3⟩ := hS
  refine e_X4_movedRound (s_allOfRound (by omega) h2 (fun z hz => hP _ (fun i hi => ?_)))
  rw [pk_sub (by omega), b_and, b_or, bt_shl (by omega) hi, bt_ushr (by omega), hz i hi]
  by_cases q : i < v
  · by_cases r : s ≤ i
    · rw [h3 (v - s + i) (by omega), show (i + (v - s)) % v = i - s by rw [show i + (v - s) = (i - s) + v by omega, Nat.add_mod_right, Nat.mod_eq_of_lt (by omega)]]
      simp [q, r]
    · rw [show (i + (v - s)) % v = v - s + i by rw [Nat.mod_eq_of_lt (by omega)]; omega]
      simp [q, r]
  · simp [q]
theorem s_hitsX {d : Nat} {P : Int32 → Hp → Prop} {h : Hp} {v s : Nat} {x : Int32} (hS : St v x) (hs : s < v) (hP : P (nI (ht v (bt x) s)) h) : CI M_X4_hitsOfStep (d + 3) [.int (nI v), .int x, .int (nI s)] h P := by
  refine e_X4_hitsOfStep (s_movedRound hS hs (fun z hz => s_bitCount ?_))
  have e : ∀ i, i < 32 → bt (x &&& z) i = (decide (i < v) && (bt x i && bt x ((i + (v - s)) % v))) := fun i hi => by
    rw [b_and, hz i hi]
    cases bt x i <;> cases decide (i < v) <;> simp
  rw [fb_ct_cong e, ct_mask (by have := hS.2.1; omega)]
  rw [← ct_rot (fun i => bt x i && bt x ((i + (v - s)) % v)) (s := s) (by omega) (by omega)]
  have e2 : fb_ct (fun i => bt x ((i + s) % v) && bt x (((i + s) % v + (v - s)) % v)) v = ht v (bt x) s := by
    unfold ht
    refine fb_ct_cong (fun i hi => ?_)
    rw [Nat.mod_add_mod, show i + s + (v - s) = i + v by omega, Nat.add_mod_right, Nat.mod_eq_of_lt hi, Bool.and_comm]
  rw [e2]; exact hP
theorem l_hitsM {d : Nat} {P : Int32 → Hp → Prop} {h : Hp} {v s : Nat} {x : Int32} (hv : 2 ≤ v) (hv2 : v ≤ 31) (hs : s < v) (hP : P (nI (ht v (bt x) s)) h) : ∀ (m k : Nat), k + m = v → L_X5_hitsOf_5 d P h (nI v) x (nI s) (nI (fb_ct (fun y => bt x y && bt x ((y + s) % v)) k)) (nI k) := by
  intro m
  induction m with
  | zero =>
    intro k hk
    refine r_X5_hitsOf_5 (pk_le v k (fun c => ?_) (fun c => absurd c (by omega)))
    rw [show k = v by omega]; exact hP
  | succ m ih =>
    intro k hk
    have nx := ih (k + 1) (by omega)
    rw [fb_ct_succ] at nx
    have er : irem (nI k + nI s) (nI v) = nI ((k + s) % v) := by
      rw [nI_add]; exact pk_rem (by omega) (by omega) (by omega)
    have hml : (k + s) % v < 32 := Nat.lt_of_lt_of_le (Nat.mod_lt _ (by omega)) (by omega)
    refine r_X5_hitsOf_5 (pk_le v k (fun c => absurd c (by omega)) (fun c => ?_))
    rw [nI0, nI1, nI1, er]
    refine bitcases (by omega) (fun q => ?_) (fun q => ⟨nI_ne0 (by omega) (by omega), bitcases hml (fun q2 => ?_) (fun q2 => ?_)⟩)
    · rw [q] at nx; simpa using nx
    · rw [q2] at nx; simpa using nx
    · rw [q, q2] at nx; simpa using nx
theorem s_hitsM {d : Nat} {P : Int32 → Hp → Prop} {h : Hp} {v s : Nat} {x : Int32} (hv : 2 ≤ v) (hv2 : v ≤ 31) (hs : s < v) (hP : P (nI (ht v (bt x) s)) h) : CI M_X5_hitsOf (d + 1) [.int (nI v), .int x, .int (nI s)] h P :=
  e_X5_hitsOf (l_hitsM hv hv2 hs hP v 0 (by omega))
theorem op_hits {n a : Nat} {g : Nat → Nat → Bool} {fd : Int32} {sh : Sh} (G : Gd n g a sh) (v x s : Int32) : OpI M_X4_hits M_X5_hits [.int v, .int x, .int s] n g a fd sh := by
  cases hb : isS v x
  · refine ⟨-2, n, g, a, fd, sh, G, fun d h P hC hP => ?_, fun d h P hM hP => ?_⟩
    · exact e_X4_hits hC.ok (s_isSetX (zb (fun _ => hP h hC Fr.rf) (fun c => absurd (hb.symm.trans c) (by decide))))
    · exact e_X5_hits (mo_ok hM.1) (s_isSetM (zb (fun _ => hP h hM Fr.rf) (fun c => absurd (hb.symm.trans c) (by decide))))
  · obtain ⟨m, rfl, hS⟩ := isS_t hb
    obtain ⟨h1, h2, h3⟩ := hS
    have e31 : nI m - 1 = nI (m - 1) := pk_sub (a := m) (b := 1) (by omega)
    cases hs : decide (nI 1 ≤ s ∧ s ≤ nI (m - 1))
    · refine ⟨-2, n, g, a, fd, sh, G, fun d h P hC hP => ?_, fun d h P hM hP => ?_⟩
      · refine e_X4_hits hC.ok (s_isSetX (zb (fun c => absurd (hb.symm.trans c) (by decide)) (fun _ => ⟨fun _ => hP h hC Fr.rf, fun c => ⟨fun c2 => ?_, fun _ => hP h hC Fr.rf⟩⟩)))
        exfalso
        refine of_decide_eq_false hs ⟨Int32.not_lt.mp c, ?_⟩
        rw [Int32.lt_iff_toInt_lt, nI_toInt (by omega)] at c2
        rw [Int32.le_iff_toInt_le, nI_toInt (by omega)]
        omega
      · refine e_X5_hits (mo_ok hM.1) (s_isSetM (zb (fun c => absurd (hb.symm.trans c) (by decide)) (fun _ => s_in ?_)))
        rw [e31]
        exact zb (fun _ => hP h hM Fr.rf) (fun c => absurd (hs.symm.trans c) (by decide))
    · obtain ⟨st, s1, s2, rfl⟩ := in2 (by omega) (by omega) hs
      refine ⟨nI (ht m (bt x) st), n, g, a, fd, sh, G, fun d h P hC hP => ?_, fun d h P hM hP => ?_⟩
      · exact e_X4_hits hC.ok (s_isSetX (zb (fun c => absurd (hb.symm.trans c) (by decide)) (fun _ => pk_lt st 1 (fun c => absurd c (by omega)) (fun _ => pk_lt st m (fun _ => s_hitsX ⟨h1, h2, h3⟩ (by omega) (hP h hC Fr.rf)) (fun c => absurd c (by omega))))))
      · refine e_X5_hits (mo_ok hM.1) (s_isSetM (zb (fun c => absurd (hb.symm.trans c) (by decide)) (fun _ => s_in ?_)))
        rw [e31]
        exact zb (fun c => absurd (hs.symm.trans c) (by decide)) (fun _ => s_hitsM h1 h2 (by omega) (hP h hM Fr.rf))
/-! even sets -/
def allEv (v : Nat) (b : Nat → Bool) : Prop := ∀ s, 2 ≤ s → s < v → ht v b s = ht v b 1
theorem s_evenX {d : Nat} {P : Int32 → Hp → Prop} {h : Hp} {v : Nat} {x : Int32} (hS : St v x) (h1 : allEv v (bt x) → P (nI (ht v (bt x) 1)) h) (h0 : ¬ allEv v (bt x) → P (-1) h) : CI M_X4_evenHits (d + 4) [.int (nI v), .int x] h P := by
  have hv := hS.1
  have hv2 := hS.2.1
  have key : ∀ (m k : Nat), k + m = v → 2 ≤ k → (∀ s, 2 ≤ s → s < k → ht v (bt x) s = ht v (bt x) 1) → L_X4_evenHits_9 (d + 3) P h (nI v) x (nI (ht v (bt x) 1)) (nI k) := by
    intro m
    induction m with
    | zero =>
      intro k hk h2 hall
      refine r_X4_evenHits_9 (pk_le v k (fun c => h1 ?_) (fun c => absurd c (by omega)))
      intro s a1 a2; exact hall s a1 (by omega)
    | succ m ih =>
      intro k hk h2 hall
      refine r_X4_evenHits_9 (pk_le v k (fun c => absurd c (by omega)) (fun c => s_hitsX hS (by omega) ?_))
      refine pk_eq _ _ (fun q => ?_) (fun q => h0 (fun r => q (r k h2 (by omega)))) rfl rfl (by have := ht_le v (bt x) k; omega) (by have := ht_le v (bt x) 1; omega)
      rw [nI1]
      refine ih (k + 1) (by omega) (by omega) (fun s a1 a2 => ?_)
      by_cases r : s = k
      · subst r; exact q
      · exact hall s a1 (by omega)
  exact e_X4_evenHits (s_hitsX (s := 1) hS (by omega) (key (v - 2) 2 (by omega) (by omega) (fun s a1 a2 => absurd a1 (by omega))))
theorem s_evenM {d : Nat} {P : Int32 → Hp → Prop} {h : Hp} {v : Nat} {x : Int32} (hv : 2 ≤ v) (hv2 : v ≤ 31) (h1 : allEv v (bt x) → P (nI (ht v (bt x) 1)) h) (h0 : ¬ allEv v (bt x) → P (-1) h) : CI M_X5_evenOf (d + 2) [.int (nI v), .int x] h P := by
  have key : ∀ (m k : Nat), k + m = v → 2 ≤ k → (∀ s, 2 ≤ s → s < k → ht v (bt x) s = ht v (bt x) 1) → L_X5_evenOf_9 (d + 1) P h (nI v) x (nI (ht v (bt x) 1)) (nI k) := by
    intro m
    induction m with
    | zero =>
      intro k hk h2 hall
      refine r_X5_evenOf_9 (pk_le v k (fun c => h1 ?_) (fun c => absurd c (by omega)))
      intro s a1 a2; exact hall s a1 (by omega)
    | succ m ih =>
      intro k hk h2 hall
      refine r_X5_evenOf_9 (pk_le v k (fun c => absurd c (by omega)) (fun c => s_hitsM hv hv2 (by omega) ?_))
      refine pk_eq _ _ (fun q => ?_) (fun q => h0 (fun r => q (r k h2 (by omega)))) rfl rfl (by have := ht_le v (bt x) k; omega) (by have := ht_le v (bt x) 1; omega)
      rw [nI1]
      refine ih (k + 1) (by omega) (by omega) (fun s a1 a2 => ?_)
      by_cases r : s = k
      · subst r; exact q
      · exact hall s a1 (by omega)
  exact e_X5_evenOf (s_hitsM (s := 1) hv hv2 (by omega) (key (v - 2) 2 (by omega) (by omega) (fun s a1 a2 => absurd a1 (by omega))))
theorem op_even {n a : Nat} {g : Nat → Nat → Bool} {fd : Int32} {sh : Sh} (G : Gd n g a sh) (v x : Int32) : OpI M_X4_even M_X5_even [.int v, .int x] n g a fd sh := by
  cases hb : isS v x
  · refine ⟨-2, n, g, a, fd, sh, G, fun d h P hC hP => ?_, fun d h P hM hP => ?_⟩
    · exact e_X4_even hC.ok (s_isSetX (bz (fun c => absurd (hb.symm.trans c) (by decide)) (fun _ => hP h hC Fr.rf)))
    · exact e_X5_even (mo_ok hM.1) (s_isSetM (zb (fun _ => hP h hM Fr.rf) (fun c => absurd (hb.symm.trans c) (by decide))))
  · obtain ⟨m, rfl, hS⟩ := isS_t hb
    obtain ⟨r, r1, r0⟩ : ∃ r : Int32, (allEv m (bt x) → r = nI (ht m (bt x) 1)) ∧ (¬ allEv m (bt x) → r = -1) := by
      by_cases q : allEv m (bt x)
      · exact ⟨_, fun _ => rfl, fun c => absurd q c⟩
      · exact ⟨_, fun c => absurd c q, fun _ => rfl⟩
    refine ⟨r, n, g, a, fd, sh, G, fun d h P hC hP => ?_, fun d h P hM hP => ?_⟩
    · exact e_X4_even hC.ok (s_isSetX (bz (fun _ => s_evenX hS (fun q => r1 q ▸ hP h hC Fr.rf) (fun q => r0 q ▸ hP h hC Fr.rf)) (fun c => absurd (hb.symm.trans c) (by decide))))
    · exact e_X5_even (mo_ok hM.1) (s_isSetM (zb (fun c => absurd (hb.symm.trans c) (by decide)) (fun _ => s_evenM hS.1 hS.2.1 (fun q => r1 q ▸ hP h hM Fr.rf) (fun q => r0 q ▸ hP h hM Fr.rf))))
/-! welch -/
theorem op_welch {n a : Nat} {g : Nat → Nat → Bool} {fd : Int32} {sh : Sh} (G : Gd n g a sh) (v k : Int32) : OpI M_X4_welch M_X5_welch [.int v, .int k] n g a fd sh := by
  cases hb : isR v
  · refine ⟨-2, n, g, a, fd, sh, G, fun d h P hC hP => ?_, fun d h P hM hP => ?_⟩
    · exact e_X4_welch hC.ok (s_isRound (zb (fun _ => hP h hC Fr.rf) (fun c => absurd (hb.symm.trans c) (by decide))))
    · exact e_X5_welch (mo_ok hM.1) (s_in (zb (fun _ => hP h hM Fr.rf) (fun c => absurd (hb.symm.trans c) (by decide))))
  · obtain ⟨m, h1, h2, rfl⟩ := isR_n hb
    cases hk : decide (nI 1 ≤ k ∧ k ≤ nI m)
    · refine ⟨-2, n, g, a, fd, sh, G, fun d h P hC hP => ?_, fun d h P hM hP => ?_⟩
      · refine e_X4_welch hC.ok (s_isRound (zb (fun c => absurd (hb.symm.trans c) (by decide)) (fun _ => ⟨fun _ => hP h hC Fr.rf, fun c => ⟨fun c2 => ?_, fun _ => hP h hC Fr.rf⟩⟩)))
        exact absurd ⟨Int32.not_lt.mp c, c2⟩ (of_decide_eq_false hk)
      · exact e_X5_welch (mo_ok hM.1) (s_in (zb (fun c => absurd (hb.symm.trans c) (by decide)) (fun _ => s_in (zb (fun _ => hP h hM Fr.rf) (fun c => absurd (hk.symm.trans c) (by decide))))))
    · obtain ⟨kk, k1, k2, rfl⟩ := in2 (by omega) (by omega) hk
      have e31 : nI m - 1 = nI (m - 1) := pk_sub (a := m) (b := 1) (by omega)
      have hmul : 0 < kk * (m - 1) := Nat.mul_pos (by omega) (by omega)
      have hmul2 : kk * (m - 1) ≤ 31 * 31 := Nat.mul_le_mul (by omega) (by omega)
      have hne : ¬ nI kk * (nI m - 1) = 0 := by
        rw [e31, pk_mul]
        exact nI_ne0 hmul (by omega)
      refine ⟨((nI m - nI kk) * 1000000) / (nI kk * (nI m - 1)), n, g, a, fd, sh, G, fun d h P hC hP => ?_, fun d h P hM hP => ?_⟩
      · exact e_X4_welch hC.ok (s_isRound (zb (fun c => absurd (hb.symm.trans c) (by decide)) (fun _ => pk_lt kk 1 (fun c => absurd c (by omega)) (fun _ => pk_le kk m (fun _ => ⟨hne, hP h hC Fr.rf⟩) (fun c => absurd c (by omega))))))
      · refine e_X5_welch (mo_ok hM.1) (s_in (zb (fun c => absurd (hb.symm.trans c) (by decide)) (fun _ => s_in (zb (fun c => absurd (hk.symm.trans c) (by decide)) (fun _ => ⟨hne, ?_⟩)))))
        rw [Int32.mul_comm]
        exact hP h hM Fr.rf
