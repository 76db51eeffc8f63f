/-! ===== none below 0, dimensions, how often a number is own: the class ===== -/
def NBZ (E : Nat → Int) (n : Nat) : Prop := ∀ k, 1 ≤ k → k ≤ n → ¬ oL (E k) < 0
theorem s_noneBelow {d : Nat} {P : Int32 → Hp → Prop} {h : Hp} {n a : Nat} {E : Nat → Int} {R : Nat → Nat → Nat → Int} (hn : n ≤ 10) (hS : ST h n a E R (n + 2) (n + 1)) (hP1 : NBZ E n → P 1 h) (hP0 : ¬ NBZ E n → P 0 h) : CI M_X2_noneBelowZero (d + 1) [.ref 5] h P := by
  obtain ⟨q5, ⟨f, q6, q6'⟩, -⟩ := hS
  have loop : ∀ (e k : Nat), k + e = n + 1 → 1 ≤ k → (∀ j, 1 ≤ j → j < k → ¬ oL (E j) < 0) → L_X2_noneBelowZero_2 d P h 5 (nI k) := by
    intro e
    induction e with
    | zero =>
      intro k hk h1 hall
      exact r_X2_noneBelowZero_2 ⟨nI n, gI_o (by decide) q5 rfl, pk_lt n k (fun _ => hP1 (fun j h2 h3 => hall j h2 (by omega))) (fun c => absurd c (by omega))⟩
    | succ e ih =>
      intro k hk h1 hall
      refine r_X2_noneBelowZero_2 ⟨nI n, gI_o (by decide) q5 rfl, pk_lt n k (fun c => absurd c (by omega)) (fun _ => ⟨6, gR_o (by decide) q5 rfl, _, lJ_o (by decide) q6 (by omega), ?_⟩)⟩
      rw [lc_ge, q6' k (by omega), nI1]
      refine ⟨fun c => ih (k + 1) (by omega) (by omega) (fun j h2 h3 => ?_), fun c => hP0 (fun q => c (q k h1 (by omega)))⟩
      by_cases q : j = k
      · rw [q]; exact c
      · exact hall j h2 (by omega)
  exact e_X2_noneBelowZero (so_ok q5) (loop n 1 (by omega) (Nat.le_refl _) (fun j h1 h2 => absurd h1 (by omega)))
def rk (E : Nat → Int) : Nat → Nat
  | 0 => 0
  | k + 1 => if oL (E (k + 1)) = 0 then rk E k else k + 1
theorem rk_le (E : Nat → Int) : ∀ n, rk E n ≤ n
  | 0 => Nat.le_refl _
  | n + 1 => by
    unfold rk
    by_cases h : oL (E (n + 1)) = 0
    · rw [if_pos h]; have := rk_le E n; omega
    · rw [if_neg h]; exact Nat.le_refl _
theorem s_dimensions {d : Nat} {P : Int32 → Hp → Prop} {h : Hp} {n a : Nat} {E : Nat → Int} {R : Nat → Nat → Nat → Int} (hn : n ≤ 10) (hS : ST h n a E R (n + 2) (n + 1)) (hP : P (nI (rk E n)) h) : CI M_X2_dimensions (d + 1) [.ref 5] h P := by
  obtain ⟨q5, ⟨f, q6, q6'⟩, -⟩ := hS
  have loop : ∀ (k : Nat), k ≤ n → rk E n = rk E k → L_X2_dimensions_5 d P h 5 (nI k) := by
    intro k
    induction k with
    | zero =>
      intro hk he
      rw [he] at hP
      exact r_X2_dimensions_5 (pk_le 0 0 (fun _ => hP) (fun c => absurd c (by omega)))
    | succ k ih =>
      intro hk he
      refine r_X2_dimensions_5 (⟨fun c => absurd c (nI_nle (by omega) (by omega)), fun _ => ⟨6, gR_o (by decide) q5 rfl, _, lJ_o (by decide) q6 (by omega), ?_⟩⟩)
      rw [lc_eq, q6' (k + 1) (by omega)]
      rw [show rk E (k + 1) = if oL (E (k + 1)) = 0 then rk E k else k + 1 from rfl] at he
      refine ⟨fun c => ?_, fun c => ?_⟩
      · rw [if_pos c] at he
        rw [show nI (k + 1) + (-1 : Int32) = nI k from pk_m1 k]
        exact ih (by omega) he
      · rw [if_neg c] at he
        rw [he] at hP; exact hP
  exact e_X2_dimensions (so_ok q5) ⟨nI n, gI_o (by decide) q5 rfl, loop n (Nat.le_refl _) rfl⟩
/-- the sums with signs by turns -/
def q0 (E : Nat → Int) (k : Nat) : Int64 := if k % 2 = 0 then oL (E k) else - oL (E k)
def ps (x : Int64) (q : Nat → Int64) : Nat → Nat → Int64
  | 0 => q
  | K + 1 => vp_updL (ps x q K) (K + 1) (ps x q K (K + 1) + x * ps x q K K)
def ow (x : Int64) : Nat → (Nat → Int64) → Nat → Nat
  | 0, _, t => t
  | m + 1, q, t => if ps x q (m + 1) (m + 1) = 0 then ow x m (ps x q (m + 1)) (t + 1) else t
def Ag (n : Nat) (f q : Nat → Int64) : Prop := ∀ k, k ≤ n → f k = q k
theorem Ag.upd {n : Nat} {f q : Nat → Int64} (h : Ag n f q) {K : Nat} {v w : Int64} (e : v = w) : Ag n (vp_updL f K v) (vp_updL q K w) := fun k hk => by
  by_cases r : k = K
  · rw [r, vp_s, vp_s, e]
  · rw [vp_n r, vp_n r]; exact h k hk
theorem s_timesOwn {d : Nat} {P : Int32 → Hp → Prop} {h : Hp} {n a : Nat} {x : Int32} {E : Nat → Int} {R : Nat → Nat → Nat → Int} (hn : n ≤ 10) (hS : ST h n a E R (n + 2) (n + 1)) (hP : ∀ h' f', h' 8 = jA 11 f' → Fr (fun k => k = 8) h h' → P (nI (ow x.toInt64 n (q0 E) 0)) h') : CI M_X2_timesOwn (d + 1) [.ref 5, .int x] h P := by
  obtain ⟨q5, ⟨f6, q6, q6'⟩, -, ⟨f8, q8⟩, -⟩ := hS
  have l46 : ∀ (m t : Nat) (h1 : Hp) (f : Nat → Int64) (q : Nat → Int64), t + m = n → h1 8 = jA 11 f → Ag n f q → Fr (fun k => k = 8) h h1 → ow x.toInt64 n (q0 E) 0 = ow x.toInt64 m q t → L_X2_timesOwn_46 d P h1 5 x (nI t) := by
    intro m
    induction m with
    | zero =>
      intro t h1 f q ht h8 hA hF he
      have : t = n := by omega
      subst this
      refine r_X2_timesOwn_46 ⟨nI t, gI_o (by decide) (by rw [hF 5 (by decide)]; exact q5) rfl, pk_le t t (fun _ => ⟨nI t, gI_o (by decide) (by rw [hF 5 (by decide)]; exact q5) rfl, ?_⟩) (fun c => absurd c (by omega))⟩
      have := hP h1 f h8 hF
      rw [he] at this; exact this
    | succ m ih =>
      intro t h1 f q ht h8 hA hF he
      refine r_X2_timesOwn_46 ⟨nI n, gI_o (by decide) (by rw [hF 5 (by decide)]; exact q5) rfl, pk_le n t (fun c => absurd c (by omega)) (fun _ => ⟨nI n, gI_o (by decide) (by rw [hF 5 (by decide)]; exact q5) rfl, ?_⟩)⟩
      rw [pk_sub (show t ≤ n by omega), show n - t = m + 1 by omega]
      have inner : ∀ (e K : Nat) (h2 : Hp) (f2 : Nat → Int64), K + e = m + 1 → h2 8 = jA 11 f2 → Ag n f2 (ps x.toInt64 q K) → Fr (fun k => k = 8) h h2 → L_X2_timesOwn_64 d P h2 5 x (nI t) (nI (m + 1)) (nI (K + 1)) := by
        intro e
        induction e with
        | zero =>
          intro K h2 f2 hK h82 hA2 hF2
          have : K = m + 1 := by omega
          subst this
          have p5 : h2 5 = so (nI n) (nI a) := by rw [hF2 5 (by decide)]; exact q5
          refine r_X2_timesOwn_64 (pk_lt (m + 1) (m + 1 + 1) (fun _ => ⟨8, gR_o (by decide) p5 rfl, _, lJ_o (by decide) h82 (by omega), ?_⟩) (fun c => absurd c (by omega)))
          rw [lc_eq, hA2 (m + 1) (by omega)]
          rw [show ow x.toInt64 (m + 1) q t = if ps x.toInt64 q (m + 1) (m + 1) = 0 then ow x.toInt64 m (ps x.toInt64 q (m + 1)) (t + 1) else t from rfl] at he
          refine ⟨fun c => ?_, fun c => ?_⟩
          · rw [if_pos c] at he
            rw [nI1]
            exact ih (t + 1) h2 f2 _ (by omega) h82 hA2 hF2 he
          · rw [if_neg c] at he
            have := hP h2 f2 h82 hF2
            rw [he] at this; exact this
        | succ e ihe =>
          intro K h2 f2 hK h82 hA2 hF2
          have p5 : h2 5 = so (nI n) (nI a) := by rw [hF2 5 (by decide)]; exact q5
          refine r_X2_timesOwn_64 (pk_lt (m + 1) (K + 1) (fun c => absurd c (by omega)) (fun _ => ⟨8, gR_o (by decide) p5 rfl, _, lJ_o (by decide) h82 (by omega), 8, gR_o (by decide) p5 rfl, f2 K, ?_, _, sJ_o (by decide) h82 (by omega), ?_⟩))
          · rw [show nI (K + 1) - 1 = nI K from nI_pred K]; exact lJ_o (by decide) h82 (by omega)
          · rw [nI1]
            refine ihe (K + 1) _ _ (by omega) hu_s (hA2.upd ?_) (hF2.tr (Fr.hu (S := fun k => k = 8) rfl))
            rw [hA2 (K + 1) (by omega), hA2 K (by omega)]
      exact inner (m + 1) 0 h1 f (by omega) h8 hA hF
  have l2 : ∀ (e k : Nat) (h1 : Hp) (f : Nat → Int64), k + e = n + 1 → h1 8 = jA 11 f → (∀ j, j < k → f j = q0 E j) → Fr (fun k => k = 8) h h1 → L_X2_timesOwn_2 d P h1 5 x (nI k) := by
    intro e
    induction e with
    | zero =>
      intro k h1 f hk h8 hA hF
      refine r_X2_timesOwn_2 ⟨nI n, gI_o (by decide) (by rw [hF 5 (by decide)]; exact q5) rfl, pk_lt n k (fun _ => ?_) (fun c => absurd c (by omega))⟩
      exact l46 n 0 h1 f (q0 E) (by omega) h8 (fun j hj => hA j (by omega)) hF rfl
    | succ e ih =>
      intro k h1 f hk h8 hA hF
      have p5 : h1 5 = so (nI n) (nI a) := by rw [hF 5 (by decide)]; exact q5
      have p6 : h1 6 = jA 12 f6 := by rw [hF 6 (by decide)]; exact q6
      refine r_X2_timesOwn_2 ⟨nI n, gI_o (by decide) p5 rfl, pk_lt n k (fun c => absurd c (by omega)) (fun _ => ⟨8, gR_o (by decide) p5 rfl, ?_⟩)⟩
      rw [irem2 (by omega), nI1]
      have fin : ∀ v, v = q0 E k → L_X2_timesOwn_2 d P (hu h1 8 (jA 11 (vp_updL f k v))) 5 x (nI (k + 1)) := fun v hv => by
        refine ih (k + 1) _ _ (by omega) hu_s (fun j hj => ?_) (hF.tr (Fr.hu (S := fun k => k = 8) rfl))
        by_cases r : j = k
        · rw [r, vp_s, hv]
        · rw [vp_n r]; exact hA j (by omega)
      refine pq_ne (k % 2) 0 (fun q => ⟨6, gR_o (by decide) p5 rfl, _, lJ_o (by decide) p6 (by omega), _, sJ_o (by decide) h8 (by omega), fin _ ?_⟩) (fun q => ⟨6, gR_o (by decide) p5 rfl, _, lJ_o (by decide) p6 (by omega), _, sJ_o (by decide) h8 (by omega), fin _ ?_⟩) rfl rfl (by omega) (by omega)
      · rw [q6' k (by omega)]; unfold q0; rw [if_neg q]
      · rw [q6' k (by omega)]; unfold q0; rw [if_pos q]
  exact e_X2_timesOwn (so_ok q5) (l2 (n + 1) 0 h f8 (by omega) q8 (fun j hj => absurd hj (by omega)) Fr.rf)
