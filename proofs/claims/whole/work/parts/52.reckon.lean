/-! ===== the reference's sums: matrix 34, power 35, next 36, traces 37, es 38 ===== -/
def sn (k : Nat) : Int := if k % 2 = 0 then 1 else -1
theorem sn_s (k : Nat) : sn (k + 1) = - sn k := by
  unfold sn
  by_cases h : k % 2 = 0
  · rw [if_pos h, if_neg (by omega)]
  · rw [if_neg h, if_pos (by omega)]; rfl
def pP (A : Nat → Nat → Int) (n k i j : Nat) : Int := sn k * mp A n k i j
theorem pP_0 (A : Nat → Nat → Int) (n i j : Nat) : pP A n 0 i j = dl i j := by show 1 * dl i j = _; rw [Int.one_mul]
theorem pP_s (A : Nat → Nat → Int) (n k i j : Nat) (hi : i < n) (hj : j < n) : pP A n (k + 1) i j = sm (fun l => pP A n k i l * A l j) n := by
  unfold pP
  rw [mp_r A n k i j hi hj, sn_s, Int.neg_mul_neg, ← sm_mul]
  exact sm_cong (fun l _ => by rw [Int.mul_assoc])
theorem pP_tr (A : Nat → Nat → Int) (n k : Nat) : sm (fun i => pP A n k i i) n = sn k * mu A n k := by
  unfold pP mu
  rw [sm_mul]
theorem pm_L (b : Bool) : (pm b).toInt64 = oL (sg b) := by cases b <;> decide
def MT (f : Nat → Int64) (n : Nat) (V : Nat → Nat → Int64) (I J : Nat) : Prop := ∀ i j, i < n → j < n → (i < I ∨ (i = I ∧ j < J)) → f (10 * i + j) = V i j
theorem MT.set {f : Nat → Int64} {n I J : Nat} {V : Nat → Nat → Int64} (h : MT f n V I J) (hn : n ≤ 10) (hJ : J < n) {x : Int64} (hx : x = V I J) : MT (vp_updL f (10 * I + J) x) n V I (J + 1) := fun i j hi hj hq => by
  by_cases q : 10 * i + j = 10 * I + J
  · have e1 : i = I := by omega
    have e2 : j = J := by omega
    rw [e1, e2, vp_s, hx]
  · rw [vp_n q]
    exact h i j hi hj (by omega)
theorem MT.next {f : Nat → Int64} {n I : Nat} {V : Nat → Nat → Int64} (h : MT f n V I n) : MT f n V (I + 1) 0 := fun i j hi hj hq => h i j hi hj (by omega)
theorem l_next {d : Nat} {P : Hp → Prop} {h : Hp} {n k : Nat} {m a fd : Int32} {mf pf nf : Nat → Int64} {A : Nat → Nat → Int} (hn : n ≤ 10) (hk : k < 10) (hm : h 32 = mo m a fd) (h34 : h 34 = jA 100 mf) (h35 : h 35 = jA 100 pf) (h36 : h 36 = jA 100 nf) (hmf : ∀ i j, i < n → j < n → mf (10 * i + j) = oL (A i j)) (hpf : ∀ i j, i < n → j < n → pf (10 * i + j) = oL (pP A n k i j))
    (hP : ∀ h' nf', h' 36 = jA 100 nf' → (∀ i j, i < n → j < n → nf' (10 * i + j) = oL (pP A n (k + 1) i j)) → Fr (fun k => k = 36) h h' → ∃ q1, gR h' 5 32 6 = some q1 ∧ ∃ h2, sJ h' q1 (nI (k + 1)) 0 = some h2 ∧ L_X5_reckon_176 d P h2 32 (nI n) (nI (k + 1)) 0) : L_X5_reckon_74 d P h 32 (nI n) (nI (k + 1)) 0 := by
  have loop : ∀ (e I : Nat) (h1 : Hp) (f1 : Nat → Int64), I + e = n → h1 36 = jA 100 f1 → MT f1 n (fun i j => oL (pP A n (k + 1) i j)) I 0 → Fr (fun k => k = 36) h h1 → L_X5_reckon_74 d P h1 32 (nI n) (nI (k + 1)) (nI I) := by
    intro e
    induction e with
    | zero =>
      intro I h1 f1 hI hf1 hG hF
      have : I = n := by omega
      subst this
      exact r_X5_reckon_74 (pk_le I I (fun _ => hP h1 f1 hf1 (fun i j hi hj => hG i j hi hj (by omega)) hF) (fun c => absurd c (by omega)))
    | succ e ih =>
      intro I h1 f1 hI hf1 hG hF
      refine r_X5_reckon_74 (pk_le n I (fun c => absurd c (by omega)) (fun _ => ?_))
      have inner : ∀ (e2 J : Nat) (h2 : Hp) (f2 : Nat → Int64), J + e2 = n → h2 36 = jA 100 f2 → MT f2 n (fun i j => oL (pP A n (k + 1) i j)) I J → Fr (fun k => k = 36) h h2 → L_X5_reckon_83 d P h2 32 (nI n) (nI (k + 1)) (nI I) (nI J) := by
        intro e2
        induction e2 with
        | zero =>
          intro J h2 f2 hJ hf2 hG2 hF2
          have : J = n := by omega
          subst this
          refine r_X5_reckon_83 (pk_le J J (fun _ => ?_) (fun c => absurd c (by omega)))
          rw [nI1]
          exact ih (I + 1) h2 f2 (by omega) hf2 hG2.next hF2
        | succ e2 ih2 =>
          intro J h2 f2 hJ hf2 hG2 hF2
          have g32 : h2 32 = mo m a fd := by rw [hF2 32 (by decide)]; exact hm
          have g34 : h2 34 = jA 100 mf := by rw [hF2 34 (by decide)]; exact h34
          have g35 : h2 35 = jA 100 pf := by rw [hF2 35 (by decide)]; exact h35
          have deep : ∀ (e3 K : Nat), K + e3 = n → L_X5_reckon_95 d P h2 32 (nI n) (nI (k + 1)) (nI I) (nI J) (oL (sm (fun l => pP A n k I l * A l J) K)) (nI K) := by
            intro e3
            induction e3 with
            | zero =>
              intro K hK
              have : K = n := by omega
              subst this
              refine r_X5_reckon_95 (pk_le K K (fun _ => ⟨36, gR_o (by decide) g32 rfl, ?_⟩) (fun c => absurd c (by omega)))
              rw [l10, nI1]
              refine ⟨_, sJ_o (by decide) hf2 (by omega), ih2 (J + 1) _ _ (by omega) hu_s (hG2.set hn (by omega) ?_) (hF2.tr (Fr.hu (S := fun k => k = 36) rfl))⟩
              rw [pP_s A K k I J (by omega) (by omega)]
            | succ e3 ih3 =>
              intro K hK
              refine r_X5_reckon_95 (pk_le n K (fun c => absurd c (by omega)) (fun _ => ⟨35, gR_o (by decide) g32 rfl, ?_⟩))
              rw [l10, l10, nI1]
              refine ⟨_, lJ_o (by decide) g35 (by omega), 34, gR_o (by decide) g32 rfl, _, lJ_o (by decide) g34 (by omega), ?_⟩
              rw [hpf I K (by omega) (by omega), hmf K J (by omega) (by omega), ← oL_mul, ← oL_add]
              exact ih3 (K + 1) (by omega)
          refine r_X5_reckon_83 (pk_le n J (fun c => absurd c (by omega)) (fun _ => deep n 0 (by omega)))
      exact inner n 0 h1 f1 (by omega) hf1 hG hF
  exact loop n 0 h nf (by omega) h36 (fun i j hi hj hq => absurd hq (by omega)) Fr.rf
theorem l_trc {d : Nat} {P : Hp → Prop} {h : Hp} {n k : Nat} {m a fd : Int32} {nf tf : Nat → Int64} {V : Nat → Int} (hn : n ≤ 10) (hk : k ≤ 10) (hm : h 32 = mo m a fd) (h36 : h 36 = jA 100 nf) (h37 : h 37 = jA 11 tf) (h0 : tf k = 0) (hnf : ∀ i, i < n → nf (11 * i) = oL (V i))
    (hP : ∀ h' tf', h' 37 = jA 11 tf' → tf' k = oL (sm V n) → (∀ j, j ≠ k → tf' j = tf j) → Fr (fun k => k = 37) h h' → L_X5_reckon_210 d P h' 32 (nI n) (nI k) 0) : L_X5_reckon_176 d P h 32 (nI n) (nI k) 0 := by
  have loop : ∀ (e I : Nat) (h1 : Hp) (f1 : Nat → Int64), I + e = n → h1 37 = jA 11 f1 → f1 k = oL (sm V I) → (∀ j, j ≠ k → f1 j = tf j) → Fr (fun k => k = 37) h h1 → L_X5_reckon_176 d P h1 32 (nI n) (nI k) (nI I) := by
    intro e
    induction e with
    | zero =>
      intro I h1 f1 hI hf1 hv ho hF
      have : I = n := by omega
      subst this
      exact r_X5_reckon_176 (pk_le I I (fun _ => hP h1 f1 hf1 hv ho hF) (fun c => absurd c (by omega)))
    | succ e ih =>
      intro I h1 f1 hI hf1 hv ho hF
      have g32 : h1 32 = mo m a fd := by rw [hF 32 (by decide)]; exact hm
      have g36 : h1 36 = jA 100 nf := by rw [hF 36 (by decide)]; exact h36
      refine r_X5_reckon_176 (pk_le n I (fun c => absurd c (by omega)) (fun _ => ⟨37, gR_o (by decide) g32 rfl, _, lJ_o (by decide) hf1 (by omega), 36, gR_o (by decide) g32 rfl, _, by rw [show (11 : Int32) = nI 11 from rfl, pk_mul]; exact lJ_o (by decide) g36 (by omega), _, sJ_o (by decide) hf1 (by omega), ?_⟩))
      rw [nI1]
      refine ih (I + 1) _ _ (by omega) hu_s ?_ (fun j hj => by rw [vp_n hj]; exact ho j hj) (hF.tr (Fr.hu (S := fun k => k = 37) rfl))
      rw [vp_s, hv, hnf I (by omega), ← oL_add]; rfl
  exact loop n 0 h tf (by omega) h37 (by rw [h0]; rfl) (fun _ _ => rfl) Fr.rf
theorem vp_lt {s t : Nat → Int64} {k : Nat} (h : ∀ j, j < k → s j = t j) : ∀ j, j < k + 1 → vp_updL s k (t k) j = t j := fun j hj => by
  by_cases q : j = k
  · rw [q, vp_s]
  · rw [vp_n q]; exact h j (by omega)
theorem l_cpy {d : Nat} {P : Hp → Prop} {h : Hp} {n k : Nat} {m a fd : Int32} {pf nf : Nat → Int64} (hm : h 32 = mo m a fd) (h35 : h 35 = jA 100 pf) (h36 : h 36 = jA 100 nf)
    (hP : ∀ h' pf', h' 35 = jA 100 pf' → (∀ j, j < 100 → pf' j = nf j) → Fr (fun k => k = 35) h h' → L_X5_reckon_243 d P h' 32 (nI n) (nI k) 0 1) : L_X5_reckon_210 d P h 32 (nI n) (nI k) 0 := by
  have loop : ∀ (e I : Nat) (h1 : Hp) (f1 : Nat → Int64), I + e = 100 → h1 35 = jA 100 f1 → (∀ j, j < I → f1 j = nf j) → Fr (fun k => k = 35) h h1 → L_X5_reckon_210 d P h1 32 (nI n) (nI k) (nI I) := by
    intro e
    induction e with
    | zero =>
      intro I h1 f1 hI hf1 hv hF
      have : I = 100 := by omega
      subst this
      exact r_X5_reckon_210 (pk_le 100 100 (fun _ => hP h1 f1 hf1 hv hF) (fun c => absurd c (by omega)))
    | succ e ih =>
      intro I h1 f1 hI hf1 hv hF
      have g32 : h1 32 = mo m a fd := by rw [hF 32 (by decide)]; exact hm
      have g36 : h1 36 = jA 100 nf := by rw [hF 36 (by decide)]; exact h36
      refine r_X5_reckon_210 (pk_le 100 I (fun c => absurd c (by omega)) (fun _ => ⟨35, gR_o (by decide) g32 rfl, 36, gR_o (by decide) g32 rfl, _, lJ_o (by decide) g36 (by omega), _, sJ_o (by decide) hf1 (by omega), ?_⟩))
      rw [nI1]
      exact ih (I + 1) _ _ (by omega) hu_s (vp_lt hv) (hF.tr (Fr.hu (S := fun k => k = 35) rfl))
  exact loop 100 0 h pf (by omega) h35 (fun j hj => absurd hj (by omega)) Fr.rf
theorem l_all {d : Nat} {P : Hp → Prop} {h : Hp} {n K : Nat} {m a fd : Int32} {tf ef : Nat → Int64} {E q : Nat → Int} (hK : K < 10) (hm : h 32 = mo m a fd) (h37 : h 37 = jA 11 tf) (h38 : h 38 = jA 11 ef) (htf : ∀ i, 1 ≤ i → i ≤ K + 1 → tf i = oL (sn i * q i)) (hef : ∀ i, i ≤ K → ef i = oL (E i)) (hnw : ((K : Int) + 1) * E (K + 1) = - cv E q K 1) (hb : ab (((K + 1 : Nat) : Int) * E (K + 1)) < 9223372036854775808)
    (hP : L_X5_reckon_66 d P (hu h 38 (jA 11 (vp_updL ef (K + 1) (oL (E (K + 1)))))) 32 (nI n) (nI (K + 1 + 1))) : L_X5_reckon_243 d P h 32 (nI n) (nI (K + 1)) 0 1 := by
  have last : L_X5_reckon_243 d P h 32 (nI n) (nI (K + 1)) (oL (((K : Int) + 1) * E (K + 1))) (nI (K + 1 + 1)) := by
    refine r_X5_reckon_243 (pk_lt (K + 1) (K + 1 + 1) (fun _ => ⟨38, gR_o (by decide) hm rfl, ?_⟩) (fun c => absurd c (by omega)))
    rw [oL_n (K + 1) (by omega), show ((K : Int) + 1) * E (K + 1) = ((K + 1 : Nat) : Int) * E (K + 1) by rw [show ((K + 1 : Nat) : Int) = (K : Int) + 1 by omega], oL_div (by omega) (by omega) hb, nI1]
    exact ⟨oL_ne0 (by omega) (by omega), _, sJ_o (by decide) h38 (by omega), hP⟩
  have loop : ∀ (e i : Nat), i + e = K → L_X5_reckon_243 d P h 32 (nI n) (nI (K + 1)) (oL (((K : Int) + 1) * E (K + 1) + cv E q e (i + 1))) (nI (i + 1)) := by
    intro e
    induction e with
    | zero =>
      intro i hi
      have : i = K := by omega
      subst this
      refine r_X5_reckon_243 (pk_lt (i + 1) (i + 1) (fun c => absurd c (by omega)) (fun _ => ?_))
      rw [irem2 (by omega), nI1, pk_sub (Nat.le_refl (i + 1)), Nat.sub_self]
      have fin : ∀ v : Int64, v = oL (- (E 0 * q (i + 1))) → L_X5_reckon_243 d P h 32 (nI n) (nI (i + 1)) (oL (((i : Int) + 1) * E (i + 1) + cv E q 0 (i + 1)) + v) (nI (i + 1 + 1)) := fun v hv => by
        rw [hv, ← oL_add, show ((i : Int) + 1) * E (i + 1) + cv E q 0 (i + 1) + - (E 0 * q (i + 1)) = ((i : Int) + 1) * E (i + 1) by show _ + E 0 * q (i + 1) + _ = _; omega]
        exact last
      refine pq_ne ((i + 1) % 2) 1 (fun z => ⟨38, gR_o (by decide) hm rfl, _, lJ_o (by decide) h38 (by omega), 37, gR_o (by decide) hm rfl, _, lJ_o (by decide) h37 (by omega), fin _ ?_⟩) (fun z => ⟨38, gR_o (by decide) hm rfl, _, lJ_o (by decide) h38 (by omega), 37, gR_o (by decide) hm rfl, _, lJ_o (by decide) h37 (by omega), fin _ ?_⟩) rfl rfl (by omega) (by omega)
      · rw [hef 0 (by omega), htf (i + 1) (by omega) (by omega), show (-1 : Int64) = oL (-1) from by decide, ← oL_mul, ← oL_mul]
        congr 1
        unfold sn; rw [if_pos (by omega)]; grind
      · rw [hef 0 (by omega), htf (i + 1) (by omega) (by omega), show (1 : Int64) = oL 1 from by decide, ← oL_mul, ← oL_mul]
        congr 1
        unfold sn; rw [if_neg (by omega)]; grind
    | succ e ih =>
      intro i hi
      refine r_X5_reckon_243 (pk_lt (K + 1) (i + 1) (fun c => absurd c (by omega)) (fun _ => ?_))
      rw [irem2 (by omega), nI1, pk_sub (show i + 1 ≤ K + 1 by omega), show K + 1 - (i + 1) = e + 1 by omega]
      have fin : ∀ v : Int64, v = oL (- (E (e + 1) * q (i + 1))) → L_X5_reckon_243 d P h 32 (nI n) (nI (K + 1)) (oL (((K : Int) + 1) * E (K + 1) + cv E q (e + 1) (i + 1)) + v) (nI (i + 1 + 1)) := fun v hv => by
        rw [hv, ← oL_add, show ((K : Int) + 1) * E (K + 1) + cv E q (e + 1) (i + 1) + - (E (e + 1) * q (i + 1)) = ((K : Int) + 1) * E (K + 1) + cv E q e (i + 1 + 1) by show _ + (E (e + 1) * q (i + 1) + _) + _ = _; omega]
        exact ih (i + 1) (by omega)
      refine pq_ne ((i + 1) % 2) 1 (fun z => ⟨38, gR_o (by decide) hm rfl, _, lJ_o (by decide) h38 (by omega), 37, gR_o (by decide) hm rfl, _, lJ_o (by decide) h37 (by omega), fin _ ?_⟩) (fun z => ⟨38, gR_o (by decide) hm rfl, _, lJ_o (by decide) h38 (by omega), 37, gR_o (by decide) hm rfl, _, lJ_o (by decide) h37 (by omega), fin _ ?_⟩) rfl rfl (by omega) (by omega)
      · rw [hef (e + 1) (by omega), htf (i + 1) (by omega) (by omega), show (-1 : Int64) = oL (-1) from by decide, ← oL_mul, ← oL_mul]
        congr 1
        unfold sn; rw [if_pos (by omega)]; grind
      · rw [hef (e + 1) (by omega), htf (i + 1) (by omega) (by omega), show (1 : Int64) = oL 1 from by decide, ← oL_mul, ← oL_mul]
        congr 1
        unfold sn; rw [if_neg (by omega)]; grind
  have := loop K 0 (by omega)
  rw [hnw, Int.add_comm, Int.add_right_neg] at this
  exact this
