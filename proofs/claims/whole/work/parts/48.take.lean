/-! ===== the class's sums: its object at 5, sum at 6, rest at 7, quotient at 8, the rests at 9 to 19 ===== -/
def so (n a : Int32) : Cl := ob 2 [.ref 6, .ref 7, .ref 8, .int n, .int a]
theorem so_ok {h : Hp} {n a : Int32} (e : h 5 = so n a) : (5 : Nat) < 47 ∧ ∃ fs, h 5 = .inr (2, fs) := ⟨by decide, _, e⟩
theorem ne_oj {h : Hp} {t a c n : Nat} {fs : List Value} {f : Nat → Int64} (h1 : h t = ob c fs) (h2 : h a = jA n f) : t ≠ a := fun e => by
  rw [e, h2] at h1
  simp [jA, ob] at h1
theorem ix {n i j : Nat} : nI n * nI i + nI j = nI (n * i + j) := by rw [pk_mul, nI_add]
theorem ixq_lt {n i j : Nat} (hn : n ≤ 10) (hi : i < n) (hj : j < n) : n * i + j < 100 := by
  have h1 : n * i ≤ n * (n - 1) := Nat.mul_le_mul_left n (by omega)
  have h2 : ∀ n, n ≤ 10 → 0 < n → n * (n - 1) + n ≤ 100 := by decide
  have := h2 n hn (by omega)
  omega
theorem ixq_inj {n i j x y : Nat} (hj : j < n) (hy : y < n) (h : n * i + j = n * x + y) : i = x ∧ j = y := by
  have e1 : (n * i + j) / n = i := by rw [Nat.mul_add_div (by omega), Nat.div_eq_of_lt hj]; rfl
  have e2 : (n * x + y) / n = x := by rw [Nat.mul_add_div (by omega), Nat.div_eq_of_lt hy]; rfl
  have : i = x := by rw [← e1, h, e2]
  subst this
  exact ⟨rfl, by omega⟩
def MG (f : Nat → Int64) (n : Nat) (V W : Nat → Nat → Int64) (I J : Nat) : Prop := ∀ i j, i < n → j < n → f (n * i + j) = if i < I ∨ (i = I ∧ j < J) then V i j else W i j
theorem MG.b (f : Nat → Int64) (n : Nat) (V : Nat → Nat → Int64) : MG f n V (fun i j => f (n * i + j)) 0 0 := fun i j _ _ => by rw [if_neg (by omega)]
theorem MG.set {f : Nat → Int64} {n I J : Nat} {V W : Nat → Nat → Int64} (h : MG f n V W I J) (hI : I < n) (hJ : J < n) {x : Int64} (hx : x = V I J) : MG (vp_updL f (n * I + J) x) n V W I (J + 1) := fun i j hi hj => by
  by_cases q : n * i + j = n * I + J
  · obtain ⟨rfl, rfl⟩ := ixq_inj hj hJ q
    rw [vp_s, if_pos (by omega), hx]
  · rw [vp_n q, h i j hi hj]
    have : ¬ (i = I ∧ j = J) := fun r => q (by rw [r.1, r.2])
    have e : (i < I ∨ (i = I ∧ j < J)) ↔ (i < I ∨ (i = I ∧ j < J + 1)) := by omega
    simp only [e]
theorem MG.next {f : Nat → Int64} {n I : Nat} {V W : Nat → Nat → Int64} (h : MG f n V W I n) : MG f n V W (I + 1) 0 := fun i j hi hj => by
  rw [h i j hi hj]
  have e : (i < I ∨ (i = I ∧ j < n)) ↔ (i < I + 1 ∨ (i = I + 1 ∧ j < 0)) := by omega
  simp only [e]
theorem MG.get {f : Nat → Int64} {n I J : Nat} {V W : Nat → Nat → Int64} (h : MG f n V W I J) (hI : I < n) (hJ : J < n) : f (n * I + J) = W I J := by rw [h I J hI hJ, if_neg (by omega)]
theorem MG.fin {f : Nat → Int64} {n : Nat} {V W : Nat → Nat → Int64} (h : MG f n V W n 0) : ∀ i j, i < n → j < n → f (n * i + j) = V i j := fun i j hi hj => by rw [h i j hi hj, if_pos (by omega)]
theorem dl_L (i j : Nat) : oL (dl i j) = if i = j then 1 else 0 := by unfold dl; by_cases h : i = j <;> simp [h, oL] <;> decide
theorem s_setUnit {d : Nat} {P : Hp → Prop} {h : Hp} {n r : Nat} {a : Int32} {f : Nat → Int64} (hn : n ≤ 10) (hr : r < 47) (h5 : h 5 = so (nI n) a) (hf : h r = jA 100 f) (hP : ∀ h' f', h' r = jA 100 f' → (∀ i j, i < n → j < n → f' (n * i + j) = oL (dl i j)) → Fr (fun k => k = r) h h' → P h') : CV M_X2_setUnit (d + 1) [.ref 5, .ref r] h P := by
  have hr5 : 5 ≠ r := ne_oj h5 hf
  have loop : ∀ (e I : Nat) (h1 : Hp) (f1 : Nat → Int64), I + e = n → h1 r = jA 100 f1 → MG f1 n (fun i j => oL (dl i j)) (fun i j => f (n * i + j)) I 0 → Fr (fun k => k = r) h h1 → L_X2_setUnit_2 d P h1 5 r (nI I) := by
    intro e
    induction e with
    | zero =>
      intro I h1 f1 hI hf1 hG hF
      have : I = n := by omega
      subst this
      refine r_X2_setUnit_2 ⟨nI I, gI_o (by decide) (by rw [hF 5 hr5]; exact h5) rfl, pk_le I I (fun _ => hP h1 f1 hf1 hG.fin hF) (fun c => absurd c (by omega))⟩
    | succ e ih =>
      intro I h1 f1 hI hf1 hG hF
      refine r_X2_setUnit_2 ⟨nI n, gI_o (by decide) (by rw [hF 5 hr5]; exact h5) rfl, pk_le n I (fun c => absurd c (by omega)) (fun _ => ?_)⟩
      have inner : ∀ (k J : Nat) (h2 : Hp) (f2 : Nat → Int64), J + k = n → h2 r = jA 100 f2 → MG f2 n (fun i j => oL (dl i j)) (fun i j => f (n * i + j)) I J → Fr (fun k => k = r) h h2 → L_X2_setUnit_12 d P h2 5 r (nI I) (nI J) := by
        intro k
        induction k with
        | zero =>
          intro J h2 f2 hJ hf2 hG2 hF2
          have : J = n := by omega
          subst this
          refine r_X2_setUnit_12 ⟨nI J, gI_o (by decide) (by rw [hF2 5 hr5]; exact h5) rfl, pk_le J J (fun _ => ?_) (fun c => absurd c (by omega))⟩
          rw [nI1]
          exact ih (I + 1) h2 f2 (by omega) hf2 hG2.next hF2
        | succ k ihk =>
          intro J h2 f2 hJ hf2 hG2 hF2
          have h52 : h2 5 = so (nI n) a := by rw [hF2 5 hr5]; exact h5
          refine r_X2_setUnit_12 ⟨nI n, gI_o (by decide) h52 rfl, pk_le n J (fun c => absurd c (by omega)) (fun _ => ⟨nI n, gI_o (by decide) h52 rfl, ?_⟩)⟩
          rw [ix, nI1]
          refine pq_ne I J (fun q => ⟨_, sJ_o hr hf2 (ixq_lt hn (by omega) (by omega)), ?_⟩) (fun q => ⟨_, sJ_o hr hf2 (ixq_lt hn (by omega) (by omega)), ?_⟩)
          · exact ihk (J + 1) _ _ (by omega) hu_s (hG2.set (by omega) (by omega) (by rw [dl_L, if_neg q])) (hF2.tr (Fr.hu (S := fun k => k = r) rfl))
          · exact ihk (J + 1) _ _ (by omega) hu_s (hG2.set (by omega) (by omega) (by rw [dl_L, if_pos q])) (hF2.tr (Fr.hu (S := fun k => k = r) rfl))
      exact inner n 0 h1 f1 (by omega) hf1 hG hF
  exact e_X2_setUnit (so_ok h5) (loop n 0 h f (by omega) hf (MG.b f n _) Fr.rf)
/-! a row times a column -/
theorem row_sum {n i j a : Nat} {g : Nat → Nat → Bool} (R : Nat → Nat → Int) (hi : i < n) : sm (fun k => if k = i then 0 else Am a g i k * R k j) n + (a : Int) * R i j = sm (fun k => Am a g i k * R k j) n := by
  have := sm_pt (fun k => Am a g i k * R k j) 0 i n hi
  have e : Am a g i i = (a : Int) := by unfold Am; simp
  rw [e] at this
  omega
theorem s_rowCol {d : Nat} {P : Int64 → Hp → Prop} {h : Hp} {n a r i j : Nat} {g : Nat → Nat → Bool} {f : Nat → Int64} {R : Nat → Nat → Int} (hn : n ≤ 10) (ha : a ≤ 9) (hr : r < 47) (h5 : h 5 = so (nI n) (nI a)) (hf : h r = jA 100 f) (hR : ∀ x y, x < n → y < n → f (n * x + y) = oL (R x y)) (hT : TB h 1 2 n g) (hi : i < n) (hj : j < n) (hP : P (oL (sm (fun k => Am a g i k * R k j) n)) h) : CJ M_X2_rowTimesColumn (d + 1) [.ref 5, .ref 1, .ref r, .int (nI i), .int (nI j)] h P := by
  obtain ⟨-, -, t1, w, t2, t3⟩ := hT
  have loop : ∀ (e K : Nat), K + e = n → L_X2_rowTimesColumn_30 d P h 5 r (nI i) (nI j) (oL (sm (fun k => if k = i then 0 else Am a g i k * R k j) K + (a : Int) * R i j)) (w i) (nI K) := by
    intro e
    induction e with
    | zero =>
      intro K hK
      have : K = n := by omega
      subst this
      refine r_X2_rowTimesColumn_30 ⟨nI K, gI_o (by decide) h5 rfl, pk_le K K (fun _ => ?_) (fun c => absurd c (by omega))⟩
      rw [row_sum R hi]; exact hP
    | succ e ih =>
      intro K hK
      have := ih (K + 1) (by omega)
      rw [sm_s] at this
      refine r_X2_rowTimesColumn_30 ⟨nI n, gI_o (by decide) h5 rfl, pk_le n K (fun c => absurd c (by omega)) (fun _ => pk_eq K i (fun q => ?_) (fun q => ⟨nI n, gI_o (by decide) h5 rfl, ?_⟩))⟩
      · rw [if_pos q, Int.add_zero] at this
        rw [nI1]; exact this
      · rw [if_neg q] at this
        rw [ix]
        refine ⟨_, lJ_o hr hf (ixq_lt hn (by omega) hj), ?_⟩
        rw [hR K j (by omega) hj, bt_bit (by omega), t3 i (by omega) K (by omega), nI1]
        have eA : Am a g i K = if g i K then -1 else 1 := by unfold Am; rw [if_neg (fun r => q r.symm)]
        rw [eA] at this
        refine ⟨fun c => ?_, fun c => ?_⟩
        · rw [c] at this
          rw [← oL_add]
          rw [show sm (fun k => if k = i then 0 else Am a g i k * R k j) K + (a : Int) * R i j + R K j = sm (fun k => if k = i then 0 else Am a g i k * R k j) K + (if false = true then -1 else 1) * R K j + (a : Int) * R i j by simp; omega]
          exact this
        · have c' : g i K = true := by cases hb : g i K <;> simp [hb] at c ⊢
          rw [c'] at this
          rw [← oL_neg, ← oL_add]
          rw [show sm (fun k => if k = i then 0 else Am a g i k * R k j) K + (a : Int) * R i j + - R K j = sm (fun k => if k = i then 0 else Am a g i k * R k j) K + (if true = true then -1 else 1) * R K j + (a : Int) * R i j by simp; omega]
          exact this
  refine e_X2_rowTimesColumn (so_ok h5) ⟨nI a, gI_o (by decide) h5 rfl, nI n, gI_o (by decide) h5 rfl, _, by rw [ix]; exact lJ_o hr hf (ixq_lt hn hi hj), 2, gR_o (by decide) t1 rfl, w i, lI_o (by decide) t2 (by omega), ?_⟩
  rw [hR i j hi hj, oL_n a (by omega), ← oL_mul]
  have := loop n 0 (by omega)
  rw [show sm (fun k => if k = i then 0 else Am a g i k * R k j) 0 + (a : Int) * R i j = (a : Int) * R i j by show (0 : Int) + _ = _; omega] at this
  exact this
theorem s_multiply {d : Nat} {P : Hp → Prop} {h : Hp} {n a r s : Nat} {g : Nat → Nat → Bool} {f f0 : Nat → Int64} {R : Nat → Nat → Int} (hn : n ≤ 10) (ha : a ≤ 9) (hr : r < 47) (hs : s < 47) (h2s : 2 < s) (hrs : r ≠ s) (h5 : h 5 = so (nI n) (nI a)) (hf : h r = jA 100 f) (hf0 : h s = jA 100 f0) (hR : ∀ x y, x < n → y < n → f (n * x + y) = oL (R x y)) (hT : TB h 1 2 n g) (hP : ∀ h' f', h' s = jA 100 f' → (∀ i j, i < n → j < n → f' (n * i + j) = oL (sm (fun k => Am a g i k * R k j) n)) → Fr (fun k => k = s) h h' → P h') : CV M_X2_multiply (d + 2) [.ref 5, .ref 1, .ref r, .ref s] h P := by
  have hs5 : 5 ≠ s := ne_oj h5 hf0
  have loop : ∀ (e I : Nat) (h1 : Hp) (f1 : Nat → Int64), I + e = n → h1 s = jA 100 f1 → MG f1 n (fun i j => oL (sm (fun k => Am a g i k * R k j) n)) (fun i j => f0 (n * i + j)) I 0 → Fr (fun k => k = s) h h1 → L_X2_multiply_3 (d + 1) P h1 5 1 r s (nI I) := by
    intro e
    induction e with
    | zero =>
      intro I h1 f1 hI hf1 hG hF
      have : I = n := by omega
      subst this
      refine r_X2_multiply_3 ⟨nI I, gI_o (by decide) (by rw [hF 5 hs5]; exact h5) rfl, pk_le I I (fun _ => hP h1 f1 hf1 hG.fin hF) (fun c => absurd c (by omega))⟩
    | succ e ih =>
      intro I h1 f1 hI hf1 hG hF
      refine r_X2_multiply_3 ⟨nI n, gI_o (by decide) (by rw [hF 5 hs5]; exact h5) rfl, pk_le n I (fun c => absurd c (by omega)) (fun _ => ?_)⟩
      have inner : ∀ (k J : Nat) (h2 : Hp) (f2 : Nat → Int64), J + k = n → h2 s = jA 100 f2 → MG f2 n (fun i j => oL (sm (fun k => Am a g i k * R k j) n)) (fun i j => f0 (n * i + j)) I J → Fr (fun k => k = s) h h2 → L_X2_multiply_15 (d + 1) P h2 5 1 r s (nI I) (nI J) := by
        intro k
        induction k with
        | zero =>
          intro J h2 f2 hJ hf2 hG2 hF2
          have : J = n := by omega
          subst this
          refine r_X2_multiply_15 ⟨nI J, gI_o (by decide) (by rw [hF2 5 hs5]; exact h5) rfl, pk_le J J (fun _ => ?_) (fun c => absurd c (by omega))⟩
          rw [nI1]
          exact ih (I + 1) h2 f2 (by omega) hf2 hG2.next hF2
        | succ k ihk =>
          intro J h2 f2 hJ hf2 hG2 hF2
          have h52 : h2 5 = so (nI n) (nI a) := by rw [hF2 5 hs5]; exact h5
          refine r_X2_multiply_15 ⟨nI n, gI_o (by decide) h52 rfl, pk_le n J (fun c => absurd c (by omega)) (fun _ => ⟨nI n, gI_o (by decide) h52 rfl, s_rowCol hn ha hr h52 (by rw [hF2 r hrs]; exact hf) hR (hT.fr hF2 (by omega) (by omega)) (by omega) (by omega) ?_⟩)⟩
          rw [ix, nI1]
          exact ⟨_, sJ_o hs hf2 (ixq_lt hn (by omega) (by omega)), ihk (J + 1) _ _ (by omega) hu_s (hG2.set (by omega) (by omega) rfl) (hF2.tr (Fr.hu (S := fun k => k = s) rfl))⟩
      exact inner n 0 h1 f1 (by omega) hf1 hG hF
  exact e_X2_multiply (so_ok h5) (loop n 0 h f0 (by omega) hf0 (MG.b f0 n _) Fr.rf)
theorem s_trace {d : Nat} {P : Int64 → Hp → Prop} {h : Hp} {n r : Nat} {a : Int32} {f : Nat → Int64} {R : Nat → Nat → Int} (hn : n ≤ 10) (hr : r < 47) (h5 : h 5 = so (nI n) a) (hf : h r = jA 100 f) (hR : ∀ x y, x < n → y < n → f (n * x + y) = oL (R x y)) (hP : P (oL (sm (fun k => R k k) n)) h) : CJ M_X2_trace (d + 1) [.ref 5, .ref r] h P := by
  have loop : ∀ (e K : Nat), K + e = n → L_X2_trace_5 d P h 5 r (oL (sm (fun k => R k k) K)) (nI K) := by
    intro e
    induction e with
    | zero =>
      intro K hK
      have : K = n := by omega
      subst this
      exact r_X2_trace_5 ⟨nI K, gI_o (by decide) h5 rfl, pk_le K K (fun _ => hP) (fun c => absurd c (by omega))⟩
    | succ e ih =>
      intro K hK
      refine r_X2_trace_5 ⟨nI n, gI_o (by decide) h5 rfl, pk_le n K (fun c => absurd c (by omega)) (fun _ => ⟨nI n, gI_o (by decide) h5 rfl, ?_⟩)⟩
      rw [ix]
      refine ⟨_, lJ_o hr hf (ixq_lt hn (by omega) (by omega)), ?_⟩
      rw [hR K K (by omega) (by omega), ← oL_add, nI1]
      exact ih (K + 1) (by omega)
  exact e_X2_trace (so_ok h5) (loop n 0 (by omega))
theorem s_takeFrom {d : Nat} {P : Hp → Prop} {h : Hp} {n r : Nat} {a : Int32} {f : Nat → Int64} {R : Nat → Nat → Int} {E : Int} (hn : n ≤ 10) (hr : r < 47) (h5 : h 5 = so (nI n) a) (hf : h r = jA 100 f) (hR : ∀ x y, x < n → y < n → f (n * x + y) = oL (R x y)) (hP : ∀ h' f', h' r = jA 100 f' → (∀ i j, i < n → j < n → f' (n * i + j) = oL (E * dl i j - R i j)) → Fr (fun k => k = r) h h' → P h') : CV M_X2_takeFromUnits (d + 1) [.ref 5, .long (oL E), .ref r] h P := by
  have hr5 : 5 ≠ r := ne_oj h5 hf
  have loop : ∀ (e I : Nat) (h1 : Hp) (f1 : Nat → Int64), I + e = n → h1 r = jA 100 f1 → MG f1 n (fun i j => oL (E * dl i j - R i j)) (fun i j => f (n * i + j)) I 0 → Fr (fun k => k = r) h h1 → L_X2_takeFromUnits_3 d P h1 5 (oL E) r (nI I) := by
    intro e
    induction e with
    | zero =>
      intro I h1 f1 hI hf1 hG hF
      have : I = n := by omega
      subst this
      refine r_X2_takeFromUnits_3 ⟨nI I, gI_o (by decide) (by rw [hF 5 hr5]; exact h5) rfl, pk_le I I (fun _ => hP h1 f1 hf1 hG.fin hF) (fun c => absurd c (by omega))⟩
    | succ e ih =>
      intro I h1 f1 hI hf1 hG hF
      refine r_X2_takeFromUnits_3 ⟨nI n, gI_o (by decide) (by rw [hF 5 hr5]; exact h5) rfl, pk_le n I (fun c => absurd c (by omega)) (fun _ => ?_)⟩
      have inner : ∀ (k J : Nat) (h2 : Hp) (f2 : Nat → Int64), J + k = n → h2 r = jA 100 f2 → MG f2 n (fun i j => oL (E * dl i j - R i j)) (fun i j => f (n * i + j)) I J → Fr (fun k => k = r) h h2 → L_X2_takeFromUnits_15 d P h2 5 (oL E) r (nI I) (nI J) := by
        intro k
        induction k with
        | zero =>
          intro J h2 f2 hJ hf2 hG2 hF2
          have : J = n := by omega
          subst this
          refine r_X2_takeFromUnits_15 ⟨nI J, gI_o (by decide) (by rw [hF2 5 hr5]; exact h5) rfl, pk_le J J (fun _ => ?_) (fun c => absurd c (by omega))⟩
          rw [nI1]
          exact ih (I + 1) h2 f2 (by omega) hf2 hG2.next hF2
        | succ k ihk =>
          intro J h2 f2 hJ hf2 hG2 hF2
          have h52 : h2 5 = so (nI n) a := by rw [hF2 5 hr5]; exact h5
          refine r_X2_takeFromUnits_15 ⟨nI n, gI_o (by decide) h52 rfl, pk_le n J (fun c => absurd c (by omega)) (fun _ => ⟨nI n, gI_o (by decide) h52 rfl, ?_⟩)⟩
          have hv : f2 (n * I + J) = oL (R I J) := by rw [hG2.get (by omega) (by omega)]; exact hR I J (by omega) (by omega)
          rw [ix, nI1]
          refine pq_ne I J (fun q => ⟨_, lJ_o hr hf2 (ixq_lt hn (by omega) (by omega)), _, sJ_o hr hf2 (ixq_lt hn (by omega) (by omega)), ?_⟩) (fun q => ⟨_, lJ_o hr hf2 (ixq_lt hn (by omega) (by omega)), _, sJ_o hr hf2 (ixq_lt hn (by omega) (by omega)), ?_⟩)
          · refine ihk (J + 1) _ _ (by omega) hu_s (hG2.set (by omega) (by omega) ?_) (hF2.tr (Fr.hu (S := fun k => k = r) rfl))
            rw [hv, ← oL_neg]; unfold dl; rw [if_neg q, Int.mul_zero, Int.zero_sub]
          · refine ihk (J + 1) _ _ (by omega) hu_s (hG2.set (by omega) (by omega) ?_) (hF2.tr (Fr.hu (S := fun k => k = r) rfl))
            rw [hv, ← oL_sub]; unfold dl; rw [if_pos q, Int.mul_one]
      exact inner n 0 h1 f1 (by omega) hf1 hG hF
  exact e_X2_takeFromUnits (so_ok h5) (loop n 0 h f (by omega) hf (MG.b f n _) Fr.rf)
