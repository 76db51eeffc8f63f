/-! ===== signs of longs ===== -/
theorem lc_lt {x : Int64} : lcmp x 0 < 0 ↔ x < 0 := by
  unfold lcmp lg_cmp
  have h0 : (0 : Int64).toInt = 0 := by decide
  by_cases h1 : x > 0
  · rw [if_pos h1]
    refine ⟨fun c => absurd c (by decide), fun c => ?_⟩
    have a1 := Int64.lt_iff_toInt_lt.mp h1
    have a2 := Int64.lt_iff_toInt_lt.mp c
    omega
  · rw [if_neg h1]
    by_cases h2 : x = 0
    · rw [if_pos h2]; exact ⟨fun c => absurd c (by decide), fun c => absurd c (by rw [h2]; decide)⟩
    · rw [if_neg h2]
      refine ⟨fun _ => ?_, fun _ => by decide⟩
      have a1 : ¬ (0 : Int64).toInt < x.toInt := fun q => h1 (Int64.lt_iff_toInt_lt.mpr q)
      have a2 : ¬ x.toInt = (0 : Int64).toInt := fun q => h2 (Int64.toInt_inj.mp q)
      exact Int64.lt_iff_toInt_lt.mpr (by omega)
theorem lc_eq {x : Int64} : lcmp x 0 = 0 ↔ x = 0 := by
  unfold lcmp lg_cmp
  by_cases h1 : x > 0
  · rw [if_pos h1]; exact ⟨fun c => absurd c (by decide), fun c => absurd h1 (by rw [c]; decide)⟩
  · rw [if_neg h1]
    by_cases h2 : x = 0
    · rw [if_pos h2]; exact ⟨fun _ => h2, fun _ => rfl⟩
    · rw [if_neg h2]; exact ⟨fun c => absurd c (by decide), fun c => absurd c h2⟩
theorem lc_ge {x : Int64} : 0 ≤ lcmp x 0 ↔ ¬ x < 0 := by rw [← lc_lt]; exact Int32.not_lt.symm
/-! ===== the row of signs times a rest times that row ===== -/
theorem both_sum {R : Nat → Nat → Int} {s : Nat → Int} {n : Nat} (hs : ∀ i, s i * s i = 1) : ∀ m, m ≤ n → (∀ i j, i < n → j < n → R i j = R j i) → sm (fun i => s i * sm (fun l => R i l * s l) m) m = sm (fun i => R i i) m + 2 * sm (fun i => sm (fun j => s i * s j * R i j) i) m
  | 0, _, _ => rfl
  | m + 1, hm, hR => by
    have ih := both_sum (s := s) hs m (by omega) hR
    have e1 : sm (fun i => s i * sm (fun l => R i l * s l) (m + 1)) m = sm (fun i => s i * sm (fun l => R i l * s l) m) m + sm (fun i => s m * s i * R m i) m := by
      rw [← sm_add]
      refine sm_cong (fun i hi => ?_)
      rw [sm_s, Int.mul_add, hR i m (by omega) (by omega)]
      grind
    have e2 : s m * sm (fun l => R m l * s l) m = sm (fun i => s m * s i * R m i) m := by
      rw [← sm_mul]
      exact sm_cong (fun i _ => by grind)
    have e3 : s m * (R m m * s m) = R m m := by
      have := hs m
      grind
    rw [sm_s, e1, ih, sm_s (fun l => R m l * s l), Int.mul_add, e2, e3, sm_s (fun i => R i i), sm_s (fun i => sm (fun j => s i * s j * R i j) i)]
    omega
def sg (b : Bool) : Int := if b then -1 else 1
theorem sg_sq (b : Bool) : sg b * sg b = 1 := by cases b <;> decide
theorem sg_mul (a b : Bool) : sg a * sg b = sg (a ^^ b) := by cases a <;> cases b <;> decide
theorem s_bothSides {d : Nat} {P : Int64 → Hp → Prop} {h : Hp} {n r : Nat} {a x : Int32} {f : Nat → Int64} {R : Nat → Nat → Int} (hn : n ≤ 10) (h1 : 1 ≤ n) (hr : r < 47) (h5 : h 5 = so (nI n) a) (hf : h r = jA 100 f) (hR : ∀ i j, i < n → j < n → f (n * i + j) = oL (R i j)) (hS : ∀ i j, i < n → j < n → R i j = R j i) (hP : P (oL (sm (fun i => sg (bt x i) * sm (fun l => R i l * sg (bt x l)) n) n)) h) : CJ M_X2_bothSides (d + 2) [.ref 5, .ref r, .int x] h P := by
  have loop : ∀ (e I : Nat), I + e = n → L_X2_bothSides_5 (d + 1) P h 5 r x (oL (sm (fun i => sm (fun j => sg (bt x i) * sg (bt x j) * R i j) i) I)) (nI I) := by
    intro e
    induction e with
    | zero =>
      intro I hI
      have : I = n := by omega
      subst this
      refine r_X2_bothSides_5 ⟨nI I, gI_o (by decide) h5 rfl, pk_le I I (fun _ => s_trace hn hr h5 hf hR ?_) (fun c => absurd c (by omega))⟩
      rw [show (2 : Int64) = oL 2 from rfl, ← oL_mul, ← oL_add, ← both_sum (s := fun i => sg (bt x i)) (fun i => sg_sq _) I (Nat.le_refl I) hS]
      exact hP
    | succ e ih =>
      intro I hI
      have inner : ∀ (k J : Nat) (y : Int32), (∀ j, j < n → bt y j = (bt x I ^^ bt x j)) → J + k = I → L_X2_bothSides_35 (d + 1) P h 5 r x (oL (sm (fun i => sm (fun j => sg (bt x i) * sg (bt x j) * R i j) i) I + sm (fun j => sg (bt x I) * sg (bt x j) * R I j) J)) (nI I) y (nI J) := by
        intro k
        induction k with
        | zero =>
          intro J y hy hJ
          have : J = I := by omega
          subst this
          refine r_X2_bothSides_35 (pk_le J J (fun _ => ?_) (fun c => absurd c (by omega)))
          rw [nI1]
          have := ih (J + 1) (by omega)
          rw [sm_s] at this
          exact this
        | succ k ihk =>
          intro J y hy hJ
          refine r_X2_bothSides_35 (pk_le I J (fun c => absurd c (by omega)) (fun _ => ⟨nI n, gI_o (by decide) h5 rfl, ?_⟩))
          rw [ix]
          refine ⟨_, lJ_o hr hf (ixq_lt hn (by omega) (by omega)), ?_⟩
          have := ihk (J + 1) y hy (by omega)
          rw [sm_s, ← Int.add_assoc, sg_mul, ← hy J (by omega)] at this
          rw [hR I J (by omega) (by omega), bt_bit (by omega), nI1]
          refine ⟨fun c => ?_, fun c => ?_⟩
          · rw [c, show sg false = 1 from rfl, Int.one_mul] at this
            rw [← oL_add]; exact this
          · have c' : bt y J = true := by cases hb : bt y J <;> simp [hb] at c ⊢
            rw [c', show sg true = -1 from rfl, Int.neg_mul, Int.one_mul] at this
            rw [← oL_neg, ← oL_add]; exact this
      refine r_X2_bothSides_5 ⟨nI n, gI_o (by decide) h5 rfl, pk_le n I (fun c => absurd c (by omega)) (fun _ => ?_)⟩
      have h0 : oL (sm (fun i => sm (fun j => sg (bt x i) * sg (bt x j) * R i j) i) I) = oL (sm (fun i => sm (fun j => sg (bt x i) * sg (bt x j) * R i j) i) I + sm (fun j => sg (bt x I) * sg (bt x j) * R I j) 0) := by
        rw [show sm (fun j => sg (bt x I) * sg (bt x j) * R I j) 0 = 0 from rfl, Int.add_zero]
      rw [bt_bit (by omega), h0]
      refine ⟨fun c => inner I 0 x (fun j _ => by rw [c, Bool.false_xor]) (by omega), fun c => inner I 0 (x ^^^ -1) (fun j hj => ?_) (by omega)⟩
      have c' : bt x I = true := by cases hb : bt x I <;> simp [hb] at c ⊢
      rw [b_xor, b_m1 j (by omega), c', Bool.xor_comm]
  exact e_X2_bothSides (so_ok h5) (loop (n - 1) 1 (by omega))
/-! ===== with one line more ===== -/
theorem FS.cong {n : Nat} {A B : Nat → Nat → Int} {E : Nat → Int} {R : Nat → Nat → Nat → Int} (h : FS n A E R) (e : ∀ i j, i < n → j < n → A i j = B i j) : FS n B E R := ⟨h.1, ⟨h.2.1.1, fun k i j hi hj => by rw [h.2.1.2 k i j hi hj, sm_cong (fun l hl => by rw [e i l hi hl])]⟩, h.2.2⟩
theorem Am_ad {a n : Nat} {g : Nat → Nat → Bool} {b : Nat → Bool} : (∀ i j, i < n → j < n → Am a g i j = Am a (adg g b n n) i j) ∧ Am a (adg g b n n) n n = (a : Int) ∧ ∀ i, i < n → Am a (adg g b n n) i n = sg (b i) := by
  refine ⟨fun i j hi hj => ?_, by unfold Am; simp, fun i hi => ?_⟩
  · unfold Am adg
    rw [if_neg (show ¬ (i = n ∧ j < n) by omega), if_neg (show ¬ (j = n ∧ i < n) by omega)]
  · unfold Am adg sg
    rw [if_neg (show ¬ i = n by omega), if_neg (show ¬ (i = n ∧ n < n) by omega), if_pos (show n = n ∧ i < n from ⟨rfl, hi⟩)]
/-- the sums with one line more -/
def Fx (a n : Nat) (g : Nat → Nat → Bool) (b : Nat → Bool) (E : Nat → Int) (R : Nat → Nat → Nat → Int) : Nat → Int := Fb (Am a (adg g b n n)) n E R
theorem s_sumWith {d : Nat} {P : Int64 → Hp → Prop} {h : Hp} {n a k : Nat} {x : Int32} {g : Nat → Nat → Bool} {E : Nat → Int} {R : Nat → Nat → Nat → Int} (hn : n ≤ 10) (h1 : 1 ≤ n) (ha : a ≤ 9) (hg : WF n g) (hE : FS n (Am a g) E R) (hS : ST h n a E R (n + 2) (n + 1)) (hk : k ≤ n + 1) (h2 : 2 ≤ k) (hP : P (oL (Fx a n g (bt x) E R k)) h) : CJ M_X2_sumWith (d + 3) [.ref 5, .int x, .int (nI k)] h P := by
  obtain ⟨q5, ⟨f, q6, q6'⟩, q7, q8, q9⟩ := hS
  obtain ⟨k', rfl⟩ : ∃ k', k = k' + 2 := ⟨k - 2, by omega⟩
  obtain ⟨fa, qa, qa'⟩ := q9 k' (by omega)
  refine e_X2_sumWith (so_ok q5) ⟨6, gR_o (by decide) q5 rfl, _, lJ_o (by decide) q6 (by omega), nI a, gI_o (by decide) q5 rfl, 6, gR_o (by decide) q5 rfl, f (k' + 1), ?_, 7, gR_o (by decide) q5 rfl, 9 + k', ?_, s_bothSides (x := x) hn h1 (by omega) q5 qa (qa' (by omega)) (fun i j hi hj => hE.2.1.sym (Am_sy hg) k' i j hi hj) ?_⟩
  · rw [show nI (k' + 2) - 1 = nI (k' + 1) from nI_pred (k' + 1)]; exact lJ_o (by decide) q6 (by omega)
  · rw [show nI (k' + 2) - 2 = nI k' from pk_sub (a := k' + 2) (b := 2) (by omega)]; exact lQ9 q7 (by omega)
  · rw [q6' (k' + 2) (by omega), q6' (k' + 1) (by omega), oL_n a (by omega), ← oL_mul, ← oL_add, ← oL_sub]
    have e : Fx a n g (bt x) E R (k' + 2) = E (k' + 2) + (a : Int) * E (k' + 1) - sm (fun i => sg (bt x i) * sm (fun l => R k' i l * sg (bt x l)) n) n := by
      show E (k' + 2) + Am a (adg g (bt x) n n) n n * E (k' + 1) - cc2 (Am a (adg g (bt x) n n)) n R k' = _
      rw [Am_ad.2.1]
      congr 1
      unfold cc2 uu
      refine sm_cong (fun i hi => ?_)
      rw [Am_ad.2.2 i hi]
      congr 1
      exact sm_cong (fun l hl => by rw [Am_ad.2.2 l hl])
    rw [← e]; exact hP
def LI (n dd : Nat) (F : Nat → Int) (K : Nat) : Prop := ∀ k, 2 ≤ k → K < k → k ≤ n + 1 → ¬ oL (F k) < 0 ∧ (dd < k → oL (F k) = 0)
theorem s_letsIn {d : Nat} {P : Int32 → Hp → Prop} {h : Hp} {n a dd : Nat} {x : Int32} {g : Nat → Nat → Bool} {E : Nat → Int} {R : Nat → Nat → Nat → Int} (hn : n ≤ 10) (h1 : 1 ≤ n) (ha : a ≤ 9) (hdd : dd ≤ 20) (hg : WF n g) (hE : FS n (Am a g) E R) (hS : ST h n a E R (n + 2) (n + 1)) (hP1 : LI n dd (Fx a n g (bt x) E R) 0 → P 1 h) (hP0 : ¬ LI n dd (Fx a n g (bt x) E R) 0 → P 0 h) : CI M_X2_letsIn (d + 4) [.ref 5, .int x, .int (nI dd)] h P := by
  have loop : ∀ (e k : Nat), k = e + 1 → k ≤ n + 1 → LI n dd (Fx a n g (bt x) E R) k → L_X2_letsIn_7 (d + 3) P h 5 x (nI dd) (nI k) := by
    intro e
    induction e with
    | zero =>
      intro k hk hkn hL
      refine r_X2_letsIn_7 (pk_lt k 2 (fun _ => hP1 (fun j h2 h3 h4 => hL j h2 (by omega) h4)) (fun c => absurd c (by omega)))
    | succ e ih =>
      intro k hk hkn hL
      refine r_X2_letsIn_7 (pk_lt k 2 (fun c => absurd c (by omega)) (fun _ => s_sumWith hn h1 ha hg hE hS hkn (by omega) ?_))
      subst hk
      have e1 : nI (e + 1 + 1) + (-1 : Int32) = nI (e + 1) := pk_m1 (e + 1)
      have down : ¬ oL (Fx a n g (bt x) E R (e + 1 + 1)) < 0 → (dd < e + 1 + 1 → oL (Fx a n g (bt x) E R (e + 1 + 1)) = 0) → L_X2_letsIn_7 (d + 3) P h 5 x (nI dd) (nI (e + 1 + 1) + (-1 : Int32)) := fun c1 c2 => by
        rw [e1]
        refine ih (e + 1) rfl (by omega) (fun j h2 h3 h4 => ?_)
        by_cases q : j = e + 1 + 1
        · rw [q]; exact ⟨c1, c2⟩
        · exact hL j h2 (by omega) h4
      rw [lc_lt, lc_eq]
      refine ⟨fun c => hP0 (fun q => (q (e + 1 + 1) (by omega) (by omega) hkn).1 c), fun c => ⟨fun q => down c (fun r => ?_), fun q => ⟨fun z => down c (fun _ => z), fun z => hP0 (fun w => z ((w (e + 1 + 1) (by omega) (by omega) hkn).2 ?_))⟩⟩⟩
      · exact absurd q (nI_ge r (by omega))
      · exact Nat.lt_of_not_le (fun r => q (nI_le r (by omega)))
  have q5 := hS.1
  refine e_X2_letsIn (so_ok q5) ⟨nI n, gI_o (by decide) q5 rfl, ?_⟩
  rw [nI1]
  exact loop n (n + 1) rfl (Nat.le_refl _) (fun j h2 h3 h4 => absurd h3 (by omega))
