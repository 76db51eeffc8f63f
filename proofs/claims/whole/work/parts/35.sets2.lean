/-! ===== find ===== -/
theorem sm_ct_swap (q : Nat → Nat → Bool) (n : Nat) : ∀ m, fb_sm (fun s => fb_ct (fun x => q s x) n) m = fb_sm (fun x => fb_ct (fun s => q s x) m) n
  | 0 => by
    have : ∀ k, fb_sm (fun x => fb_ct (fun s => q s x) 0) k = 0 := by
      intro k; induction k with
      | zero => rfl
      | succ k ih => rw [fb_sm_succ, ih]; rfl
    rw [this]; rfl
  | m + 1 => by
    rw [fb_sm_succ, sm_ct_swap q n m]
    have : ∀ k, fb_sm (fun x => fb_ct (fun s => q s x) (m + 1)) k = fb_sm (fun x => fb_ct (fun s => q s x) m) k + fb_ct (fun x => q m x) k := by
      intro k; induction k with
      | zero => rfl
      | succ k ih => rw [fb_sm_succ, fb_sm_succ, ih, fb_ct_succ, fb_ct_succ]; omega
    rw [this]
theorem ct_and_const (b : Bool) (p : Nat → Bool) (n : Nat) : fb_ct (fun s => b && p s) n = if b then fb_ct p n else 0 := by
  cases b
  · simp; exact fb_ct_zero.mpr (fun _ _ => rfl)
  · simp
theorem sum_ind (b : Nat → Bool) (k : Nat) : ∀ n, fb_sm (fun x => if b x then k else 0) n = fb_ct b n * k
  | 0 => by simp [fb_sm, fb_ct]
  | n + 1 => by
    rw [fb_sm_succ, sum_ind b k n, fb_ct_succ, Nat.add_mul]
    cases b n <;> simp
theorem ht_sum (v : Nat) (b : Nat → Bool) (hv : 0 < v) : fb_sm (fun s => ht v b s) v = fb_ct b v * fb_ct b v := by
  unfold ht
  rw [sm_ct_swap (fun s x => b x && b ((x + s) % v)) v v, ← sum_ind b (fb_ct b v) v]
  refine fb_sm_cong (fun x hx => ?_)
  rw [ct_and_const]
  have : fb_ct (fun s => b ((x + s) % v)) v = fb_ct b v := by
    rw [← ct_rot b (s := x) (by omega) hv]
    exact fb_ct_cong (fun k _ => by rw [Nat.add_comm])
  rw [this]
theorem ht_0 (v : Nat) (b : Nat → Bool) (hv : 0 < v) : ht v b 0 = fb_ct b v := by
  unfold ht
  exact fb_ct_cong (fun k hk => by rw [Nat.add_zero, Nat.mod_eq_of_lt hk, Bool.and_self])
theorem ev_count {v : Nat} {b : Nat → Bool} (hv : 2 ≤ v) (h : allEv v b) : fb_ct b v * (fb_ct b v - 1) = (v - 1) * ht v b 1 := by
  have h1 := ht_sum v b (by omega)
  rw [show v = 1 + (v - 1) by omega, fb_sm_split, ← show v = 1 + (v - 1) by omega] at h1
  have h2 : fb_sm (fun s => ht v b s) 1 = fb_ct b v := by rw [show (1 : Nat) = 0 + 1 from rfl, fb_sm_succ, ht_0 v b (by omega)]; simp [fb_sm]
  have h3 : fb_sm (fun k => ht v b (1 + k)) (v - 1) = (v - 1) * ht v b 1 := by
    rw [← fb_sm_const]
    refine fb_sm_cong (fun k hk => ?_)
    by_cases q : k = 0
    · subst q; rfl
    · exact h (1 + k) (by omega) (by omega)
  rw [h2, h3] at h1
  rw [Nat.mul_sub, Nat.mul_one]
  omega
def okF (v k N : Nat) : Prop := fb_ct (fun i => N.testBit i) v = k ∧ allEv v (bt (nI N))
noncomputable def fnd (v k : Nat) : Nat → Nat → Int32
  | 0, _ => -1
  | m + 1, N => @ite _ (okF v k N) (Classical.propDecidable _) (nI N) (fnd v k m (N + 2))
theorem fnd_t {v k m N : Nat} (h : okF v k N) : fnd v k (m + 1) N = nI N := by unfold fnd; exact if_pos h
theorem fnd_f {v k m N : Nat} (h : ¬ okF v k N) : fnd v k (m + 1) N = fnd v k m (N + 2) := by
  show @ite _ (okF v k N) (Classical.propDecidable _) (nI N) (fnd v k m (N + 2)) = _
  exact if_neg h
theorem fnd_none {v k : Nat} (h : ∀ N, ¬ okF v k N) : ∀ m N, fnd v k m N = -1
  | 0, _ => rfl
  | m + 1, N => by rw [fnd_f (h N), fnd_none h m (N + 2)]
theorem ct_testBit {N v : Nat} (hv : v ≤ 31) (hN : N < 2 ^ v) : fb_ct (bt (nI N)) 32 = fb_ct (fun i => N.testBit i) v := by
  have e : ∀ i, i < 32 → bt (nI N) i = (decide (i < v) && N.testBit i) := fun i hi => by
    rw [bt_nI hi]
    by_cases q : i < v
    · simp [q]
    · rw [Nat.testBit_lt_two_pow (Nat.lt_of_lt_of_le hN (Nat.pow_le_pow_right (by decide) (by omega)))]; simp [q]
  rw [fb_ct_cong e, ct_mask (by omega)]
theorem st_nI {N v : Nat} (h2 : 2 ≤ v) (hv : v ≤ 31) (hN : N < 2 ^ v) : St v (nI N) := ⟨h2, hv, fun i hi => by
  by_cases q : i < 32
  · rw [bt_nI q]; exact Nat.testBit_lt_two_pow (Nat.lt_of_lt_of_le hN (Nat.pow_le_pow_right (by decide) hi))
  · exact b_big (by omega)⟩
theorem allEv_cong {v : Nat} {b b' : Nat → Bool} (hv : 0 < v) (h : ∀ i, i < v → b i = b' i) : allEv v b ↔ allEv v b' := by
  have e : ∀ s, ht v b s = ht v b' s := fun s => by
    unfold ht
    exact fb_ct_cong (fun k hk => by rw [h k hk, h _ (Nat.mod_lt _ hv)])
  unfold allEv
  simp only [e]
theorem ne_m1 {k : Nat} (hk : k < 2 ^ 30) : ¬ nI k = -1 := fun e => by
  have := congrArg Int32.toInt e
  rw [nI_toInt (by omega)] at this
  have h2 : (-1 : Int32).toInt = -1 := by decide
  omega
theorem add2 (k : Nat) : nI k + (2 : Int32) = nI (k + 2) := nI_add k 2
theorem l_findX {d : Nat} {P : Int32 → Hp → Prop} {h : Hp} {v k : Nat} (h2 : 2 ≤ v) (hv : v ≤ 15) (hk : k ≤ v) : ∀ (m N : Nat), N + 2 * m = 2 ^ v + 1 → P (fnd v k m N) h → L_X4_find_42 (d + 4) P h (nI v) (nI k) (nI N) := by
  have hp : (2 : Nat) ^ v ≤ 2 ^ 15 := Nat.pow_le_pow_right (by decide) hv
  intro m
  induction m with
  | zero =>
    intro N hN hP
    refine r_X4_find_42 ?_
    rw [ishl1 (by omega)]
    exact pk_le (2 ^ v) N (fun _ => hP) (fun c => absurd c (by omega))
  | succ m ih =>
    intro N hN hP
    refine r_X4_find_42 ?_
    rw [ishl1 (by omega)]
    refine pk_le (2 ^ v) N (fun c => absurd c (by omega)) (fun c => s_bitCount ?_)
    rw [ct_testBit (v := v) (by omega) c, add2]
    have hle : fb_ct (fun i => N.testBit i) v ≤ v := fb_ct_le _ v
    refine pq_ne _ k (fun q => ?_) (fun q => ?_) rfl rfl (by omega) (by omega)
    · rw [fnd_f (fun r => q r.1)] at hP
      exact ih (N + 2) (by omega) hP
    · refine s_evenX (st_nI h2 (by omega) c) (fun r => ⟨fun e => absurd e (ne_m1 (by have := ht_le v (bt (nI N)) 1; omega)), fun _ => ?_⟩) (fun r => ⟨fun _ => ?_, fun e => absurd rfl e⟩)
      · rw [fnd_t ⟨q, r⟩] at hP; exact hP
      · rw [fnd_f (fun r2 => r r2.2)] at hP
        exact ih (N + 2) (by omega) hP
theorem l_findM {d : Nat} {P : Int32 → Hp → Prop} {h : Hp} {v k : Nat} (h2 : 2 ≤ v) (hv : v ≤ 15) (hk : k ≤ v) : ∀ (m N : Nat), N + 2 * m = 2 ^ v + 1 → P (fnd v k m N) h → L_X5_find_24 (d + 2) P h (nI v) (nI k) (nI N) := by
  have hp : (2 : Nat) ^ v ≤ 2 ^ 15 := Nat.pow_le_pow_right (by decide) hv
  intro m
  induction m with
  | zero =>
    intro N hN hP
    refine r_X5_find_24 ?_
    rw [ishl1 (by omega)]
    exact pk_le (2 ^ v) N (fun _ => hP) (fun c => absurd c (by omega))
  | succ m ih =>
    intro N hN hP
    refine r_X5_find_24 ?_
    rw [ishl1 (by omega)]
    refine pk_le (2 ^ v) N (fun c => absurd c (by omega)) (fun c => ?_)
    have inner : ∀ (e I : Nat), I + e = v → L_X5_find_37 (d + 2) P h (nI v) (nI k) (nI N) (nI (fb_ct (fun i => N.testBit i) I)) (nI I) := by
      intro e
      induction e with
      | zero =>
        intro I hI
        refine r_X5_find_37 (pk_le v I (fun _ => ?_) (fun c => absurd c (by omega)))
        have : I = v := by omega
        subst this
        rw [add2]
        have hle : fb_ct (fun i => N.testBit i) I ≤ I := fb_ct_le _ I
        refine pq_ne _ k (fun q => ?_) (fun q => ?_) rfl rfl (by omega) (by omega)
        · rw [fnd_f (fun r => q r.1)] at hP
          exact ih (N + 2) (by omega) hP
        · refine s_evenM h2 (by omega) (fun r => ⟨fun e => absurd e (ne_m1 (by have := ht_le I (bt (nI N)) 1; omega)), fun _ => ?_⟩) (fun r => ⟨fun _ => ?_, fun e => absurd rfl e⟩)
          · rw [fnd_t ⟨q, r⟩] at hP; exact hP
          · rw [fnd_f (fun r2 => r r2.2)] at hP
            exact ih (N + 2) (by omega) hP
      | succ e ihe =>
        intro I hI
        refine r_X5_find_37 (pk_le v I (fun c => absurd c (by omega)) (fun _ => ?_))
        have nx := ihe (I + 1) (by omega)
        rw [fb_ct_succ] at nx
        rw [shr_bit (by omega), bt_nI (by omega), nI1]
        have e2 : nI (fb_ct (fun i => N.testBit i) I) + b2i (N.testBit I) = nI (fb_ct (fun i => N.testBit i) I + if N.testBit I = true then 1 else 0) := by
          unfold b2i
          cases N.testBit I
          · exact nI0 _
          · exact nI1 _
        rw [e2]; exact nx
    exact inner v 0 (by omega)
theorem op_find {n a : Nat} {g : Nat → Nat → Bool} {fd : Int32} {sh : Sh} (G : Gd n g a sh) (v k : Int32) : OpI M_X4_find M_X5_find [.int v, .int k] n g a fd sh := by
  cases hb : decide (nI 2 ≤ v ∧ v ≤ nI 15)
  · refine ⟨-2, n, g, a, fd, sh, G, fun d h P hC hP => ?_, fun d h P hM hP => ?_⟩
    · refine e_X4_find hC.ok (s_isRound (zb (fun _ => hP h hC Fr.rf) (fun c => ⟨fun _ => hP h hC Fr.rf, fun c2 => ?_⟩)))
      have c3 := of_decide_eq_true (show decide (nI 2 ≤ v ∧ v ≤ nI 31) = true from c)
      exact absurd ⟨c3.1, Int32.not_lt.mp c2⟩ (of_decide_eq_false hb)
    · exact e_X5_find (mo_ok hM.1) (s_in (zb (fun _ => hP h hM Fr.rf) (fun c => absurd (hb.symm.trans c) (by decide))))
  · obtain ⟨m, h1, h2, rfl⟩ := in2 (by decide) (by decide) hb
    have hR : isR (nI m) = true := in2' (by decide) h1 (by omega)
    cases hk : decide (nI 1 ≤ k ∧ k ≤ nI m)
    · refine ⟨-2, n, g, a, fd, sh, G, fun d h P hC hP => ?_, fun d h P hM hP => ?_⟩
      · refine e_X4_find hC.ok (s_isRound (zb (fun c => absurd (hR.symm.trans c) (by decide)) (fun _ => pk_lt 15 m (fun c => absurd c (by omega)) (fun _ => ⟨fun _ => hP h hC Fr.rf, fun c => ⟨fun c2 => ?_, fun _ => hP h hC Fr.rf⟩⟩))))
        exact absurd ⟨Int32.not_lt.mp c, c2⟩ (of_decide_eq_false hk)
      · exact e_X5_find (mo_ok hM.1) (s_in (zb (fun c => absurd (hb.symm.trans c) (by decide)) (fun _ => s_in (bz (fun c => absurd (hk.symm.trans c) (by decide)) (fun _ => hP h hM Fr.rf)))))
    · obtain ⟨kk, k1, k2, rfl⟩ := in2 (by omega) (by omega) hk
      have hpw : 2 ^ m = 2 * 2 ^ (m - 1) := by rw [← Nat.pow_succ']; congr 1; omega
      refine ⟨fnd m kk (2 ^ (m - 1)) 1, n, g, a, fd, sh, G, fun d h P hC hP => ?_, fun d h P hM hP => ?_⟩
      · refine e_X4_find hC.ok (s_isRound (zb (fun c => absurd (hR.symm.trans c) (by decide)) (fun _ => pk_lt 15 m (fun c => absurd c (by omega)) (fun _ => pk_lt kk 1 (fun c => absurd c (by omega)) (fun _ => pk_le kk m (fun _ => ?_) (fun c => absurd c (by omega)))))))
        have e1 : nI m - 1 = nI (m - 1) := pk_sub (a := m) (b := 1) (by omega)
        have e2 : nI kk * (nI kk - 1) = nI (kk * (kk - 1)) := n1
        have hb2 : kk * (kk - 1) ≤ 15 * 15 := Nat.mul_le_mul (by omega) (by omega)
        have e3 : irem (nI (kk * (kk - 1))) (nI (m - 1)) = nI (kk * (kk - 1) % (m - 1)) := pk_rem (by omega) (by omega) (by omega)
        rw [e1, e2, e3]
        refine ⟨nI_ne0 (by omega) (by omega), pk_eq (kk * (kk - 1) % (m - 1)) 0 (fun q => ?_) (fun q => ?_) rfl rfl (by have := Nat.mod_le (kk * (kk - 1)) (m - 1); omega)⟩
        · exact l_findX h1 h2 k2 (2 ^ (m - 1)) 1 (by omega) (hP h hC Fr.rf)
        · have hno : ∀ N, ¬ okF m kk N := fun N hN => by
            have hev := ev_count h1 hN.2
            have hct : fb_ct (bt (nI N)) m = kk := by
              rw [← hN.1]
              exact fb_ct_cong (fun i hi => bt_nI (by omega))
            rw [hct] at hev
            rw [hev, Nat.mul_mod_right] at q
            exact q rfl
          have := hP h hC Fr.rf
          rw [fnd_none hno] at this
          exact this
      · exact e_X5_find (mo_ok hM.1) (s_in (zb (fun c => absurd (hb.symm.trans c) (by decide)) (fun _ => s_in (bz (fun _ => l_findM h1 h2 k2 (2 ^ (m - 1)) 1 (by omega) (hP h hM Fr.rf)) (fun c => absurd (hk.symm.trans c) (by decide))))))
/-! ===== multipliers ===== -/
def mulP (v : Nat) (b : Nat → Bool) (t : Nat) : Prop := Nat.gcd t v = 1 ∧ ∃ y, y < v ∧ ∀ x, x < v → b x = b ((t * x + y) % v)
noncomputable def mulB (v : Nat) (b : Nat → Bool) (t : Nat) : Bool := @decide (1 ≤ t ∧ mulP v b t) (Classical.propDecidable _)
theorem mulB_t {v t : Nat} {b : Nat → Bool} (h1 : 1 ≤ t) (h : mulP v b t) : mulB v b t = true := by unfold mulB; exact @decide_eq_true _ (Classical.propDecidable _) ⟨h1, h⟩
theorem mulB_f {v t : Nat} {b : Nat → Bool} (h : ¬ mulP v b t) : mulB v b t = false := by unfold mulB; exact @decide_eq_false _ (Classical.propDecidable _) (fun q => h q.2)
theorem mulB_0 {v : Nat} {b : Nat → Bool} : mulB v b 0 = false := by unfold mulB; exact @decide_eq_false _ (Classical.propDecidable _) (fun q => absurd q.1 (by decide))
theorem l_divM {d : Nat} {P : Int32 → Hp → Prop} {h : Hp} : ∀ (y x : Nat), x < 2 ^ 20 → y < 2 ^ 20 → P (nI (Nat.gcd x y)) h → L_X5_divisor_4 d P h (nI x) (nI y) := by
  intro y
  induction y using Nat.strongRecOn with
  | _ y ih =>
    intro x hx hy hP
    refine r_X5_divisor_4 (pk_le y 0 (fun c => ?_) (fun c => ⟨nI_ne0 (by omega) (by omega), ?_⟩))
    · have : y = 0 := by omega
      subst this
      rw [Nat.gcd_zero_right] at hP; exact hP
    · rw [show irem (nI x) (nI y) = nI (x % y) from pk_rem (by omega) (by omega) (by omega)]
      have hlt := Nat.mod_lt x (show y > 0 by omega)
      refine ih (x % y) hlt y hy (by omega) ?_
      rw [Nat.gcd_comm, ← Nat.gcd_rec, Nat.gcd_comm]; exact hP
theorem inv_ok : ∀ v, v < 32 → ∀ t, t < v → Nat.gcd t v = 1 → v < 2 ∨ ∃ u, u < v ∧ t * u % v = 1 := by decide +kernel
/-- the products of a set -/
def img (v : Nat) (b : Nat → Bool) (t k : Nat) (i : Nat) : Prop := ∃ x, x < k ∧ b x = true ∧ t * x % v = i
theorem l_mult {d : Nat} {P : Int32 → Hp → Prop} {h : Hp} {v t : Nat} {x : Int32} (h2 : 2 ≤ v) (hv : v ≤ 31) (htv : t < v) (hP : ∀ z : Int32, (∀ i, i < 32 → (bt z i = true ↔ img v (bt x) t v i)) → P z h) :
    ∀ (m k : Nat) (z : Int32), k + m = v → (∀ i, i < 32 → (bt z i = true ↔ img v (bt x) t k i)) → L_X4_multiplied_5 d P h (nI v) x (nI t) z (nI k) := by
  intro m
  induction m with
  | zero =>
    intro k z hk hz
    refine r_X4_multiplied_5 (pk_le v k (fun _ => hP z ?_) (fun c => absurd c (by omega)))
    rw [show k = v by omega] at hz; exact hz
  | succ m ih =>
    intro k z hk hz
    have hml : t * k % v < v := Nat.mod_lt _ (by omega)
    have htk : t * k ≤ 31 * 31 := Nat.mul_le_mul (by omega) (by omega)
    have er : irem (nI t * nI k) (nI v) = nI (t * k % v) := by rw [pk_mul]; exact pk_rem (by omega) (by omega) (by omega)
    refine r_X4_multiplied_5 (pk_le v k (fun c => absurd c (by omega)) (fun _ => ?_))
    rw [bt_bit (by omega), nI1, er]
    refine ⟨fun q => ih (k + 1) z (by omega) (fun i hi => (hz i hi).trans ⟨?_, ?_⟩), fun q => ⟨nI_ne0 (by omega) (by omega), ih (k + 1) _ (by omega) (fun i hi => ?_)⟩⟩
    · rintro ⟨y, h3, h4, h5⟩; exact ⟨y, by omega, h4, h5⟩
    · rintro ⟨y, h3, h4, h5⟩
      refine ⟨y, ?_, h4, h5⟩
      have : y ≠ k := fun r => by rw [r, q] at h4; cases h4
      omega
    · have q' : bt x k = true := by cases hb : bt x k <;> simp [hb] at q ⊢
      rw [b_or, bt_one (by omega) hi, Bool.or_eq_true, hz i hi]
      constructor
      · rintro (⟨y, h3, h4, h5⟩ | r)
        · exact ⟨y, by omega, h4, h5⟩
        · exact ⟨k, by omega, q', (of_decide_eq_true r).symm⟩
      · rintro ⟨y, h3, h4, h5⟩
        by_cases r : y = k
        · subst r; exact Or.inr (decide_eq_true h5.symm)
        · exact Or.inl ⟨y, by omega, h4, h5⟩
theorem s_mult {d : Nat} {P : Int32 → Hp → Prop} {h : Hp} {v t : Nat} {x : Int32} (h2 : 2 ≤ v) (hv : v ≤ 31) (htv : t < v) (hP : ∀ z : Int32, (∀ i, i < 32 → (bt z i = true ↔ img v (bt x) t v i)) → P z h) : CI M_X4_multiplied (d + 1) [.int (nI v), .int x, .int (nI t)] h P := by
  refine e_X4_multiplied (l_mult h2 hv htv hP v 0 0 (by omega) (fun i hi => ?_))
  rw [b_0]
  exact ⟨fun c => absurd c (by decide), fun ⟨y, h3, _⟩ => absurd h3 (by omega)⟩
theorem s_isMoved {d : Nat} {P : Int32 → Hp → Prop} {h : Hp} {v : Nat} {x w : Int32} (hS : St v x) (h1 : (∃ s, s < v ∧ ∀ i, i < 32 → bt w i = (decide (i < v) && bt x ((i + (v - s)) % v))) → P 1 h) (h0 : (¬ ∃ s, s < v ∧ ∀ i, i < 32 → bt w i = (decide (i < v) && bt x ((i + (v - s)) % v))) → P 0 h) : CI M_X4_isMovedRound (d + 3) [.int (nI v), .int x, .int w] h P := by
  have hv := hS.2.1
  have key : ∀ (m k : Nat), k + m = v → (∀ s, s < k → ¬ ∀ i, i < 32 → bt w i = (decide (i < v) && bt x ((i + (v - s)) % v))) → L_X4_isMovedRound_2 (d + 2) P h (nI v) x w (nI k) := by
    intro m
    induction m with
    | zero =>
      intro k hk hno
      refine r_X4_isMovedRound_2 (pk_le v k (fun _ => h0 ?_) (fun c => absurd c (by omega)))
      rintro ⟨s, hs, he⟩; exact hno s (by omega) he
    | succ m ih =>
      intro k hk hno
      refine r_X4_isMovedRound_2 (pk_le v k (fun c => absurd c (by omega)) (fun _ => s_movedRound hS (by omega) (fun z hz => ⟨fun q => ?_, fun q => ?_⟩)))
      · rw [nI1]
        refine ih (k + 1) (by omega) (fun s hs he => ?_)
        by_cases r : s = k
        · subst r
          exact q (b_ext (fun i hi => by rw [hz i hi, he i hi]))
        · exact hno s (by omega) he
      · exact h1 ⟨k, by omega, fun i hi => by rw [← q]; exact hz i hi⟩
  exact e_X4_isMovedRound (key v 0 (by omega) (fun s hs => absurd hs (by omega)))
theorem mod_rot {v a s : Nat} (hs : s < v) : ((a % v) + (v - s)) % v = (a + (v - s) % v) % v := by
  rw [Nat.mod_add_mod, Nat.add_mod_mod]
/-- both ways of saying that t is a multiplier -/
theorem mul_iff {v t : Nat} {x z w : Int32} (hS : St v x) (ht1 : 1 ≤ t) (htv : t < v) (hz : ∀ i, i < 32 → (bt z i = true ↔ img v (fun k => decide (k < v)) t v i)) (hw : ∀ i, i < 32 → (bt w i = true ↔ img v (bt x) t v i)) (full : ∀ i, i < v → bt z i = true) :
    (∃ s, s < v ∧ ∀ i, i < 32 → bt w i = (decide (i < v) && bt x ((i + (v - s)) % v))) ↔ mulP v (bt x) t := by
  obtain ⟨h2, hv, h3⟩ := hS
  have hg : Nat.gcd t v = 1 := by
    obtain ⟨y, hy, -, e⟩ := (hz 1 (by omega)).mp (full 1 (by omega))
    have d1 : Nat.gcd t v ∣ t * y := Nat.dvd_trans (Nat.gcd_dvd_left t v) (Nat.dvd_mul_right t y)
    have d2 : Nat.gcd t v ∣ t * y % v := (Nat.dvd_mod_iff (Nat.gcd_dvd_right t v)).mpr d1
    rw [e] at d2
    exact Nat.dvd_one.mp d2
  obtain ⟨u, hu, hui⟩ := (inv_ok v (by omega) t htv hg).resolve_left (by omega)
  have inj : ∀ p q, p < v → q < v → t * p % v = t * q % v → p = q := fun p q hp hq e => by
    have key : ∀ r, r < v → u * (t * r % v) % v = r := fun r hr => by
      rw [Nat.mul_mod, Nat.mod_mod, ← Nat.mul_mod, ← Nat.mul_assoc, Nat.mul_comm u t, Nat.mul_mod, hui, Nat.one_mul, Nat.mod_mod, Nat.mod_eq_of_lt hr]
    rw [← key p hp, ← key q hq, e]
  have wv : ∀ y, y < v → bt w (t * y % v) = bt x y := fun y hy => by
    have hl : t * y % v < 32 := Nat.lt_of_lt_of_le (Nat.mod_lt _ (by omega)) (by omega)
    cases hb : bt x y
    · cases hc : bt w (t * y % v)
      · rfl
      · obtain ⟨q, hq, hbq, e⟩ := (hw _ hl).mp hc
        have := inj q y hq hy e
        rw [this, hb] at hbq; cases hbq
    · exact (hw _ hl).mpr ⟨y, hy, hb, rfl⟩
  have wbig : ∀ i, i < 32 → v ≤ i → bt w i = false := fun i hi hvi => by
    cases hc : bt w i
    · rfl
    · obtain ⟨q, hq, -, e⟩ := (hw i hi).mp hc
      have := Nat.mod_lt (t * q) (show v > 0 by omega)
      omega
  constructor
  · rintro ⟨s, hs, he⟩
    refine ⟨hg, (v - s) % v, Nat.mod_lt _ (by omega), fun y hy => ?_⟩
    have hl : t * y % v < v := Nat.mod_lt _ (by omega)
    have := he (t * y % v) (by omega)
    rw [wv y hy] at this
    rw [this, mod_rot hs]
    simp [hl]
  · rintro ⟨-, y, hy, he⟩
    refine ⟨(v - y) % v, Nat.mod_lt _ (by omega), fun i hi => ?_⟩
    by_cases q : i < v
    · obtain ⟨p, hp, -, e⟩ := (hz i hi).mp (full i q)
      have h5 := wv p hp
      rw [e] at h5
      rw [h5, he p hp, ← e]
      have h6 : (t * p % v + (v - (v - y) % v)) % v = (t * p + y) % v := by
        rw [Nat.mod_add_mod]
        by_cases r : y = 0
        · subst r
          rw [Nat.sub_zero, Nat.mod_self, Nat.sub_zero, Nat.add_mod_right, Nat.add_zero]
        · rw [Nat.mod_eq_of_lt (show v - y < v by omega), show v - (v - y) = y by omega]
      have hl2 := Nat.mod_lt (t * p) (show v > 0 by omega)
      rw [h6]
      simp [hl2]
    · rw [wbig i hi (by omega)]; simp [q]
theorem full_iff {v t : Nat} {z : Int32} (h2 : 2 ≤ v) (hv : v ≤ 31) (htv : t < v) (hz : ∀ i, i < 32 → (bt z i = true ↔ img v (fun k => decide (k < v)) t v i)) (hg : Nat.gcd t v = 1) : ∀ i, i < v → bt z i = true := fun i hi => by
  obtain ⟨u, hu, hui⟩ := (inv_ok v (by omega) t htv hg).resolve_left (by omega)
  refine (hz i (by omega)).mpr ⟨u * i % v, Nat.mod_lt _ (by omega), decide_eq_true (Nat.mod_lt _ (by omega)), ?_⟩
  rw [Nat.mul_mod, Nat.mod_mod, ← Nat.mul_mod, ← Nat.mul_assoc, Nat.mul_mod, hui, Nat.one_mul, Nat.mod_mod, Nat.mod_eq_of_lt hi]
theorem l_mulX {d : Nat} {P : Int32 → Hp → Prop} {h : Hp} {v : Nat} {x al : Int32} (hS : St v x) (hal : ∀ i, i < 32 → bt al i = decide (i < v)) (hP : P (nI (fb_ct (mulB v (bt x)) v)) h) : ∀ (m T : Nat), T + m = v → 1 ≤ T → L_X4_multipliers_22 (d + 3) P h (nI v) x al (nI (fb_ct (mulB v (bt x)) T)) (nI T) := by
  have h2 := hS.1
  have hv := hS.2.1
  intro m
  induction m with
  | zero =>
    intro T hT h1
    refine r_X4_multipliers_22 (pk_le v T (fun _ => ?_) (fun c => absurd c (by omega)))
    rw [show T = v by omega]; exact hP
  | succ m ih =>
    intro T hT h1
    have nx := ih (T + 1) (by omega) (by omega)
    rw [fb_ct_succ] at nx
    refine r_X4_multipliers_22 (pk_le v T (fun c => absurd c (by omega)) (fun _ => s_mult h2 hv (by omega) (fun z hz => ?_)))
    have hz' : ∀ i, i < 32 → (bt z i = true ↔ img v (fun k => decide (k < v)) T v i) := fun i hi => (hz i hi).trans (by
      constructor
      · rintro ⟨y, a1, a2, a3⟩; exact ⟨y, a1, decide_eq_true a1, a3⟩
      · rintro ⟨y, a1, a2, a3⟩; exact ⟨y, a1, by rw [hal y (by omega)]; exact decide_eq_true a1, a3⟩)
    rw [nI1, nI1]
    refine ⟨fun q => ⟨fun _ => ?_, fun c => absurd rfl c⟩, fun q => ⟨fun c => absurd c (by decide), fun _ => ?_⟩⟩
    · rw [mulB_f (fun r => q ?_)] at nx
      · simpa using nx
      · refine b_ext (fun i hi => ?_)
        rw [hal i hi]
        by_cases r2 : i < v
        · rw [full_iff h2 hv (by omega) hz' r.1 i r2]; simp [r2]
        · cases hc : bt z i
          · simp [r2]
          · obtain ⟨y, -, -, e⟩ := (hz' i hi).mp hc
            have := Nat.mod_lt (T * y) (show v > 0 by omega)
            omega
    · have full : ∀ i, i < v → bt z i = true := fun i hi => by rw [q, hal i (by omega)]; simp [hi]
      refine s_mult h2 hv (by omega) (fun w hw => s_isMoved hS (fun r => ⟨fun c => absurd c (by decide), fun _ => ?_⟩) (fun r => ⟨fun _ => ?_, fun c => absurd rfl c⟩))
      · rw [mulB_t h1 ((mul_iff hS h1 (by omega) hz' hw full).mp r)] at nx
        exact nx
      · rw [mulB_f (fun r2 => r ((mul_iff hS h1 (by omega) hz' hw full).mpr r2))] at nx
        simpa using nx
theorem b2i_inj {a b : Bool} : b2i a = b2i b ↔ a = b := by cases a <;> cases b <;> decide
theorem l_mulM {d : Nat} {P : Int32 → Hp → Prop} {h : Hp} {v : Nat} {x : Int32} (hS : St v x) (hP : P (nI (fb_ct (mulB v (bt x)) v)) h) : ∀ (m T : Nat), T + m = v → 1 ≤ T → L_X5_multipliers_16 (d + 1) P h (nI v) x (nI (fb_ct (mulB v (bt x)) T)) (nI T) := by
  have h2 := hS.1
  have hv := hS.2.1
  intro m
  induction m with
  | zero =>
    intro T hT h1
    refine r_X5_multipliers_16 (pk_le v T (fun _ => ?_) (fun c => absurd c (by omega)))
    rw [show T = v by omega]; exact hP
  | succ m ih =>
    intro T hT h1
    have nx := ih (T + 1) (by omega) (by omega)
    rw [fb_ct_succ] at nx
    have hgl : Nat.gcd T v ≤ T := Nat.gcd_le_left v (by omega)
    refine r_X5_multipliers_16 (pk_le v T (fun c => absurd c (by omega)) (fun _ => e_X5_divisor (l_divM v T (by omega) (by omega) (pq_ne (Nat.gcd T v) 1 (fun q => ?_) (fun q => ?_)))))
    · rw [nI1]
      rw [mulB_f (fun r => q r.1)] at nx
      simpa using nx
    · have no : (¬ ∃ y, y < v ∧ ∀ k, k < v → bt x k = bt x ((T * k + y) % v)) → L_X5_multipliers_16 (d + 1) P h (nI v) x (nI (fb_ct (mulB v (bt x)) T) + 0) (nI T + (1 : Int32)) := fun r => by
        rw [nI0, nI1]
        rw [mulB_f (fun r2 => r r2.2)] at nx
        simpa using nx
      have yes : (∃ y, y < v ∧ ∀ k, k < v → bt x k = bt x ((T * k + y) % v)) → L_X5_multipliers_16 (d + 1) P h (nI v) x (nI (fb_ct (mulB v (bt x)) T) + 1) (nI T + (1 : Int32)) := fun r => by
        rw [nI1, nI1]
        rw [mulB_t h1 ⟨q, r⟩] at nx
        exact nx
      -- the loop over the steps
      have steps : ∀ (e Y : Nat) (f : Bool), Y + e = v → (f = true → ∃ y, y < v ∧ ∀ k, k < v → bt x k = bt x ((T * k + y) % v)) → (f = false → ∀ y, y < Y → ¬ ∀ k, k < v → bt x k = bt x ((T * k + y) % v)) → L_X5_multipliers_38 (d + 1) P h (nI v) x (nI (fb_ct (mulB v (bt x)) T)) (nI T) (b2i f) (nI Y) := by
        intro e
        induction e with
        | zero =>
          intro Y f hY hf1 hf0
          refine r_X5_multipliers_38 (pk_le v Y (fun _ => zb (fun c => no ?_) (fun c => yes (hf1 c))) (fun c => absurd c (by omega)))
          rintro ⟨y, hy, he⟩; exact hf0 c y (by omega) he
        | succ e ihe =>
          intro Y f hY hf1 hf0
          refine r_X5_multipliers_38 (pk_le v Y (fun c => absurd c (by omega)) (fun _ => bz (fun c => zb (fun c2 => absurd (c.symm.trans c2) (by decide)) (fun _ => yes (hf1 c))) (fun c => ?_)))
          have inner : ∀ (e2 X : Nat) (w : Bool), X + e2 = v → (w = true ↔ ∀ k, k < X → bt x k = bt x ((T * k + Y) % v)) → L_X5_multipliers_55 (d + 1) P h (nI v) x (nI (fb_ct (mulB v (bt x)) T)) (nI T) (b2i w) (nI Y) (nI X) := by
            intro e2
            induction e2 with
            | zero =>
              intro X w hX hw
              refine r_X5_multipliers_55 (pk_le v X (fun _ => ?_) (fun c => absurd c (by omega)))
              rw [nI1]
              have hXv : X = v := by omega
              subst hXv
              refine ihe (Y + 1) w (by omega) (fun r => ⟨Y, by omega, hw.mp r⟩) (fun r y hy he => ?_)
              by_cases s : y = Y
              · subst s
                have := hw.mpr he
                rw [r] at this; cases this
              · exact hf0 c y (by omega) he
            | succ e2 ihe2 =>
              intro X w hX hw
              have hml : (T * X + Y) % v < 32 := Nat.lt_of_lt_of_le (Nat.mod_lt _ (by omega)) (by omega)
              have htk : T * X ≤ 31 * 31 := Nat.mul_le_mul (by omega) (by omega)
              have er : irem (nI T * nI X + nI Y) (nI v) = nI ((T * X + Y) % v) := by rw [pk_mul, nI_add]; exact pk_rem (by omega) (by omega) (by omega)
              refine r_X5_multipliers_55 (pk_le v X (fun c => absurd c (by omega)) (fun _ => ⟨nI_ne0 (by omega) (by omega), ?_⟩))
              rw [er, shr_bit (show X < 32 by omega), shr_bit hml, b2i_inj, nI1]
              refine ⟨fun r => ?_, fun r => ?_⟩
              · have e0 : b2i w &&& (0 : Int32) = b2i false := by unfold b2i; cases w <;> decide
                rw [e0]
                refine ihe2 (X + 1) false (by omega) ⟨fun s => absurd s (by decide), fun s => absurd (s X (by omega)) r⟩
              · have e0 : b2i w &&& (1 : Int32) = b2i w := by unfold b2i; cases w <;> decide
                rw [e0]
                refine ihe2 (X + 1) w (by omega) (hw.trans ⟨fun s k hk => ?_, fun s k hk => s k (by omega)⟩)
                by_cases s2 : k = X
                · subst s2; exact r
                · exact s k (by omega)
          exact inner v 0 true (by omega) ⟨fun _ k hk => absurd hk (by omega), fun _ => rfl⟩
      exact steps v 0 false (by omega) (fun c => by cases c) (fun _ y hy => absurd hy (by omega))
theorem op_multipliers {n a : Nat} {g : Nat → Nat → Bool} {fd : Int32} {sh : Sh} (G : Gd n g a sh) (v x : Int32) : OpI M_X4_multipliers M_X5_multipliers [.int v, .int x] n g a fd sh := by
  cases hb : isS v x
  · refine ⟨-2, n, g, a, fd, sh, G, fun d h P hC hP => ?_, fun d h P hM hP => ?_⟩
    · exact e_X4_multipliers hC.ok (s_isSetX (bz (fun c => absurd (hb.symm.trans c) (by decide)) (fun _ => hP h hC Fr.rf)))
    · exact e_X5_multipliers (mo_ok hM.1) (s_isSetM (bz (fun c => absurd (hb.symm.trans c) (by decide)) (fun _ => hP h hM Fr.rf)))
  · obtain ⟨m, rfl, hS⟩ := isS_t hb
    have h1 := hS.1
    have h2 := hS.2.1
    have e0 : nI (fb_ct (mulB m (bt x)) 1) = 0 := by rw [show (1 : Nat) = 0 + 1 from rfl, fb_ct_succ, mulB_0]; rfl
    refine ⟨nI (fb_ct (mulB m (bt x)) m), n, g, a, fd, sh, G, fun d h P hC hP => ?_, fun d h P hM hP => ?_⟩
    · refine e_X4_multipliers hC.ok (s_isSetX (bz (fun _ => s_allOfRound (by omega) h2 (fun z hz => ?_)) (fun c => absurd (hb.symm.trans c) (by decide))))
      have := l_mulX (d := d + 16) hS hz (hP h hC Fr.rf) (m - 1) 1 (by omega) (by omega)
      rw [e0] at this
      exact this
    · refine e_X5_multipliers (mo_ok hM.1) (s_isSetM (bz (fun _ => ?_) (fun c => absurd (hb.symm.trans c) (by decide))))
      have := l_mulM (d := d + 18) hS (hP h hM Fr.rf) (m - 1) 1 (by omega) (by omega)
      rw [e0] at this
      exact this
