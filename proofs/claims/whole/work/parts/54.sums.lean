/-! ===== sums, own, lies, rank ===== -/
theorem MX.rk {h h' : Hp} {n a : Nat} {g : Nat → Nat → Bool} {fd : Int32} {sh : Sh} (x : MX h n g a fd sh) (hS : MS0 h') (f : Fr (fun k => 34 ≤ k ∧ k < 40) h h') : MX h' n g a fd sh := by
  obtain ⟨a1, a2, -, a4⟩ := x
  exact ⟨by rw [f 32 (by decide)]; exact a1, by rw [f 33 (by decide)]; exact a2, hS, a4.eq (fun k _ _ => f k (by omega))⟩
theorem M48a {k : Nat} (h : M48 k) : 34 ≤ k ∧ k < 40 := ⟨h.1, by have := h.2; omega⟩
theorem M48C {k : Nat} (h : M48 k) : MM32 k := by have := h.1; show 32 ≤ k; omega
theorem oL1 : ¬ oL 1 < 0 ∧ ¬ oL 1 = 0 := by decide
theorem s_liesAll {d : Nat} {P : Int32 → Hp → Prop} {h : Hp} {n : Nat} {m a fd : Int32} {ef : Nat → Int64} {E : Nat → Int} (hn : n ≤ 10) (hm : h 32 = mo m a fd) (h38 : h 38 = jA 11 ef) (hE : ∀ i, i ≤ n → ef i = oL (E i)) (h0 : E 0 = 1) (hP1 : NBZ E n → P 1 h) (hP0 : ¬ NBZ E n → P 0 h) : CI M_X5_liesAll (d + 1) [.ref 32, .int (nI n)] h P := by
  have loop : ∀ (e k : Nat), k + e = n + 1 → (∀ j, j < k → ¬ oL (E j) < 0) → L_X5_liesAll_2 d P h 32 (nI n) (nI k) := by
    intro e
    induction e with
    | zero =>
      intro k hk hall
      exact r_X5_liesAll_2 (pk_lt n k (fun _ => hP1 (fun j h2 h3 => hall j (by omega))) (fun c => absurd c (by omega)))
    | succ e ih =>
      intro k hk hall
      refine r_X5_liesAll_2 (pk_lt n k (fun c => absurd c (by omega)) (fun _ => ⟨38, gR_o (by decide) hm rfl, _, lJ_o (by decide) h38 (by omega), ?_⟩))
      rw [lc_ge, hE k (by omega), nI1]
      refine ⟨fun c => ih (k + 1) (by omega) (fun j h3 => ?_), fun c => hP0 (fun q => ?_)⟩
      · by_cases q : j = k
        · rw [q]; exact c
        · exact hall j (by omega)
      · by_cases r : k = 0
        · subst r; rw [h0] at c; exact c oL1.1
        · exact c (q k (by omega) (by omega))
  exact e_X5_liesAll (mo_ok hm) (loop (n + 1) 0 (by omega) (fun j h1 => absurd h1 (by omega)))
theorem s_rankOf {d : Nat} {P : Int32 → Hp → Prop} {h : Hp} {n : Nat} {m a fd : Int32} {ef : Nat → Int64} {E : Nat → Int} (hn : n ≤ 10) (hm : h 32 = mo m a fd) (h38 : h 38 = jA 11 ef) (hE : ∀ i, i ≤ n → ef i = oL (E i)) (hP : P (nI (rk E n)) h) : CI M_X5_rankOf (d + 1) [.ref 32, .int (nI n)] h P := by
  have loop : ∀ (e k : Nat), k + e = n → L_X5_rankOf_4 d P h 32 (nI n) (nI (rk E k)) (nI (k + 1)) := by
    intro e
    induction e with
    | zero =>
      intro k hk
      have : k = n := by omega
      subst this
      exact r_X5_rankOf_4 (pk_lt k (k + 1) (fun _ => hP) (fun c => absurd c (by omega)))
    | succ e ih =>
      intro k hk
      refine r_X5_rankOf_4 (pk_lt n (k + 1) (fun c => absurd c (by omega)) (fun _ => ⟨38, gR_o (by decide) hm rfl, _, lJ_o (by decide) h38 (by omega), ?_⟩))
      have := ih (k + 1) (by omega)
      rw [show rk E (k + 1) = if oL (E (k + 1)) = 0 then rk E k else k + 1 from rfl] at this
      rw [lc_eq, hE (k + 1) (by omega), nI1]
      refine ⟨fun c => ?_, fun c => ?_⟩
      · rw [if_pos c] at this; exact this
      · rw [if_neg c] at this; exact this
  refine e_X5_rankOf (mo_ok hm) (r_X5_rankOf_4 (pk_lt n 0 (fun c => absurd c (by omega)) (fun _ => ⟨38, gR_o (by decide) hm rfl, _, lJ_o (i := 0) (by decide) h38 (by decide), fun _ => loop n 0 (by omega), fun _ => loop n 0 (by omega)⟩)))
theorem an9 {a : Nat} (h : a = 3 ∨ a = 5 ∨ a = 7 ∨ a = 9) : a ≤ 9 ∧ 3 ≤ a := by omega
theorem s_takeC {d : Nat} {P : Hp → Prop} {h : Hp} {n a a0 : Nat} {g : Nat → Nat → Bool} {fd : Int32} {sh : Sh} {E : Nat → Int} {R : Nat → Nat → Nat → Int} (hn : n ≤ 10) (ha : a0 ≤ 9) (hg : WF n g) (hC : CX h n g a fd sh) (hE : FS n (Am a0 g) E R) (hP : ∀ h', CX h' n g a fd sh → ST h' n a0 E R (n + 2) (n + 1) → Fr S15 h h' → P h') : CV M_X2_take (d + 3) [.ref 5, .ref 1, .int (nI a0)] h P :=
  s_take hn ha hg hC.2.1 hC.2.2.2.1 hE (fun h' hS hF => hP h' (hC.sums hS.sm0 hF) hS hF)
theorem s_reckM {d : Nat} {P : Hp → Prop} {h : Hp} {n a a0 : Nat} {g : Nat → Nat → Bool} {fd : Int32} {sh : Sh} {E : Nat → Int} {R : Nat → Nat → Nat → Int} (hn : n ≤ 10) (ha : a0 ≤ 9) (hM : MX h n g a fd sh) (hE : FS n (Am a0 g) E R) (hP : ∀ h' f, MX h' n g a fd sh → h' 38 = jA 11 f → (∀ i, i ≤ n → f i = oL (E i)) → Fr M48 h h' → P h') : CV M_X5_reckon (d + 1) [.ref 32, .int (nI n), .int (nI a0)] h P := by
  obtain ⟨t, ht, hT⟩ := hM.2.1
  exact s_reckon hn ha hM.1 ht hT hM.2.2.1 hE (fun h' f q1 q2 q3 q4 => hP h' f (hM.rk q3 (q4.mono (fun _ => M48a))) q1 q2 q4)
theorem op_sums {n a : Nat} {g : Nat → Nat → Bool} {fd : Int32} {sh : Sh} (G : Gd n g a sh) (x y : Int32) : OpJ M_X4_sums M_X5_sums [.int x, .int y] n g a fd sh := by
  have hn := G.1
  have ha := an9 G.2.2.1
  by_cases hw : ((0 : Int32) ≤ x ∧ x ≤ 1) ∧ ((0 : Int32) ≤ y ∧ y ≤ nI n)
  · obtain ⟨hw1, hw2⟩ := hw
    obtain ⟨k, hk, rfl⟩ := nI_of2 (x := y) (M := nI n) (n := n) (nI_toInt (by omega)) (Int32.not_lt.mpr hw2.1) hw2.2
    by_cases h0 : x = 0
    · obtain ⟨E, R, hE⟩ := FS.ex (Am_sy (a := 0) G.2.1) n
      refine ⟨oL (E k), n, g, a, fd, sh, G, fun d h P hC hP => ?_, fun d h P hM hP => ?_⟩
      · refine e_X4_sums hC.ok ⟨fun c => absurd hw1.1 (Int32.not_le.mpr c), fun _ => ⟨fun c => absurd hw1.2 (Int32.not_le.mpr c), fun _ => ⟨fun c => absurd hw2.1 (Int32.not_le.mpr c), fun _ => ⟨1, g0 hC, nI n, gsz hC, fun _ => ⟨5, g2 hC, 1, g0 hC, fun c => absurd h0 c, fun _ => s_takeC (a0 := 0) hn (by omega) G.2.1 hC hE (fun h' hC' hS hF => ?_)⟩, fun c => absurd hw2.2 c⟩⟩⟩⟩
        obtain ⟨q5, ⟨f, q6, q6'⟩, -⟩ := hS
        refine ⟨5, g2 hC', 6, gR_o (by decide) q5 rfl, f k, lJ_o (by decide) q6 (by omega), ?_⟩
        rw [q6' k (by omega)]; exact hP h' hC' (hF.mono (fun _ => S15C))
      · refine e_X5_sums (mo_ok hM.1) (s_in (zb (fun c => absurd hw1 (of_decide_eq_false c)) (fun _ => ⟨nI n, m0 hM, s_in (bz (fun _ => ⟨nI n, m0 hM, fun c => absurd h0 c, fun _ => s_reckM (a0 := 0) hn (by omega) hM hE (fun h' f hM' q1 q2 hF => ?_)⟩) (fun c => absurd hw2 (of_decide_eq_false c)))⟩)))
        refine ⟨38, gR_o (by decide) hM'.1 rfl, f k, lJ_o (by decide) q1 (by omega), ?_⟩
        rw [q2 k hk]; exact hP h' hM' (hF.mono (fun _ => M48C))
    · obtain ⟨E, R, hE⟩ := FS.ex (Am_sy (a := a) G.2.1) n
      refine ⟨oL (E k), n, g, a, fd, sh, G, fun d h P hC hP => ?_, fun d h P hM hP => ?_⟩
      · refine e_X4_sums hC.ok ⟨fun c => absurd hw1.1 (Int32.not_le.mpr c), fun _ => ⟨fun c => absurd hw1.2 (Int32.not_le.mpr c), fun _ => ⟨fun c => absurd hw2.1 (Int32.not_le.mpr c), fun _ => ⟨1, g0 hC, nI n, gsz hC, fun _ => ⟨5, g2 hC, 1, g0 hC, fun _ => ⟨nI a, gan hC, s_takeC hn ha.1 G.2.1 hC hE (fun h' hC' hS hF => ?_)⟩, fun c => absurd c h0⟩, fun c => absurd hw2.2 c⟩⟩⟩⟩
        obtain ⟨q5, ⟨f, q6, q6'⟩, -⟩ := hS
        refine ⟨5, g2 hC', 6, gR_o (by decide) q5 rfl, f k, lJ_o (by decide) q6 (by omega), ?_⟩
        rw [q6' k (by omega)]; exact hP h' hC' (hF.mono (fun _ => S15C))
      · refine e_X5_sums (mo_ok hM.1) (s_in (zb (fun c => absurd hw1 (of_decide_eq_false c)) (fun _ => ⟨nI n, m0 hM, s_in (bz (fun _ => ⟨nI n, m0 hM, fun _ => ⟨nI a, man hM, s_reckM hn ha.1 hM hE (fun h' f hM' q1 q2 hF => ?_)⟩, fun c => absurd c h0⟩) (fun c => absurd hw2 (of_decide_eq_false c)))⟩)))
        refine ⟨38, gR_o (by decide) hM'.1 rfl, f k, lJ_o (by decide) q1 (by omega), ?_⟩
        rw [q2 k hk]; exact hP h' hM' (hF.mono (fun _ => M48C))
  · refine ⟨-9223372036854775806, n, g, a, fd, sh, G, fun d h P hC hP => ?_, fun d h P hM hP => ?_⟩
    · exact e_X4_sums hC.ok ⟨fun _ => hP h hC Fr.rf, fun c1 => ⟨fun _ => hP h hC Fr.rf, fun c2 => ⟨fun _ => hP h hC Fr.rf, fun c3 => ⟨1, g0 hC, nI n, gsz hC, fun c4 => absurd ⟨⟨Int32.not_lt.mp c1, Int32.not_lt.mp c2⟩, Int32.not_lt.mp c3, c4⟩ hw, fun _ => hP h hC Fr.rf⟩⟩⟩⟩
    · exact e_X5_sums (mo_ok hM.1) (s_in (zb (fun _ => hP h hM Fr.rf) (fun c => ⟨nI n, m0 hM, s_in (bz (fun c2 => absurd ⟨of_decide_eq_true c, of_decide_eq_true c2⟩ hw) (fun _ => hP h hM Fr.rf))⟩)))
theorem op_lies {n a : Nat} {g : Nat → Nat → Bool} {fd : Int32} {sh : Sh} (G : Gd n g a sh) : OpI M_X4_lies M_X5_lies [] n g a fd sh := by
  have hn := G.1
  have ha := an9 G.2.2.1
  obtain ⟨E, R, hE⟩ := FS.ex (Am_sy (a := a) G.2.1) n
  by_cases q : NBZ E n
  · refine ⟨1, n, g, a, fd, sh, G, fun d h P hC hP => ?_, fun d h P hM hP => ?_⟩
    · exact e_X4_lies hC.ok ⟨5, g2 hC, 1, g0 hC, nI a, gan hC, s_takeC hn ha.1 G.2.1 hC hE (fun h' hC' hS hF => ⟨5, g2 hC', s_noneBelow hn hS (fun _ => ⟨fun c => absurd c (by decide), fun _ => hP h' hC' (hF.mono (fun _ => S15C))⟩) (fun c => absurd q c)⟩)⟩
    · exact e_X5_lies (mo_ok hM.1) ⟨nI n, m0 hM, nI a, man hM, s_reckM hn ha.1 hM hE (fun h' f hM' q1 q2 hF => ⟨nI n, m0 hM', s_liesAll hn hM'.1 q1 q2 hE.1 (fun _ => ⟨fun c => absurd c (by decide), fun _ => hP h' hM' (hF.mono (fun _ => M48C))⟩) (fun c => absurd q c)⟩)⟩
  · refine ⟨0, n, g, a, fd, sh, G, fun d h P hC hP => ?_, fun d h P hM hP => ?_⟩
    · exact e_X4_lies hC.ok ⟨5, g2 hC, 1, g0 hC, nI a, gan hC, s_takeC hn ha.1 G.2.1 hC hE (fun h' hC' hS hF => ⟨5, g2 hC', s_noneBelow hn hS (fun c => absurd c q) (fun _ => ⟨fun _ => hP h' hC' (hF.mono (fun _ => S15C)), fun c => absurd rfl c⟩)⟩)⟩
    · exact e_X5_lies (mo_ok hM.1) ⟨nI n, m0 hM, nI a, man hM, s_reckM hn ha.1 hM hE (fun h' f hM' q1 q2 hF => ⟨nI n, m0 hM', s_liesAll hn hM'.1 q1 q2 hE.1 (fun c => absurd c q) (fun _ => ⟨fun _ => hP h' hM' (hF.mono (fun _ => M48C)), fun c => absurd rfl c⟩)⟩)⟩
theorem op_rank {n a : Nat} {g : Nat → Nat → Bool} {fd : Int32} {sh : Sh} (G : Gd n g a sh) : OpI M_X4_rank M_X5_rank [] n g a fd sh := by
  have hn := G.1
  have ha := an9 G.2.2.1
  obtain ⟨E, R, hE⟩ := FS.ex (Am_sy (a := a) G.2.1) n
  refine ⟨nI (rk E n), n, g, a, fd, sh, G, fun d h P hC hP => ?_, fun d h P hM hP => ?_⟩
  · exact e_X4_rank hC.ok ⟨5, g2 hC, 1, g0 hC, nI a, gan hC, s_takeC hn ha.1 G.2.1 hC hE (fun h' hC' hS hF => ⟨5, g2 hC', s_dimensions hn hS (hP h' hC' (hF.mono (fun _ => S15C)))⟩)⟩
  · exact e_X5_rank (mo_ok hM.1) ⟨nI n, m0 hM, nI a, man hM, s_reckM hn ha.1 hM hE (fun h' f hM' q1 q2 hF => ⟨nI n, m0 hM', s_rankOf hn hM'.1 q1 q2 (hP h' hM' (hF.mono (fun _ => M48C)))⟩)⟩
/-! own -/
abbrev R39 : Nat → Prop := fun k => k = 39
theorem l_ownM {d : Nat} {P : Int32 → Hp → Prop} {h : Hp} {n : Nat} {a fd x : Int32} {ef rf : Nat → Int64} {E : Nat → Int} (hn : n ≤ 10) (hm : h 32 = mo (nI n) a fd) (h38 : h 38 = jA 11 ef) (hE : ∀ i, i ≤ n → ef i = oL (E i)) (h39 : h 39 = jA 11 rf) (hP : ∀ h' f', h' 39 = jA 11 f' → Fr R39 h h' → P (nI (ow x.toInt64 n (q0 E) 0)) h') : L_X5_own_25 d P h 32 x 0 := by
  have l77 : ∀ (mm t : Nat) (h1 : Hp) (f : Nat → Int64) (q : Nat → Int64), t + mm = n → h1 39 = jA 11 f → Ag n f q → Fr R39 h h1 → ow x.toInt64 n (q0 E) 0 = ow x.toInt64 mm q t → L_X5_own_77 d P h1 32 x (nI t) (nI mm) 1 := by
    intro mm
    induction mm with
    | zero =>
      intro t h1 f q ht h8 hA hF he
      refine r_X5_own_77 ⟨fun c => absurd c (by decide), fun _ => ⟨fun _ => ?_, fun c => absurd (by decide) c⟩⟩
      have := hP h1 f h8 hF
      rw [he] at this; exact this
    | succ mm ih =>
      intro t h1 f q ht h8 hA hF he
      refine r_X5_own_77 ⟨fun c => absurd c (by decide), fun _ => ⟨fun c => absurd c (nI_nle (by omega) (by omega)), fun _ => ?_⟩⟩
      have inner : ∀ (e K : Nat) (h2 : Hp) (f2 : Nat → Int64), K + e = mm + 1 → h2 39 = jA 11 f2 → Ag n f2 (ps x.toInt64 q K) → Fr R39 h h2 → L_X5_own_89 d P h2 32 x (nI t) (nI (mm + 1)) (nI (K + 1)) := by
        intro e
        induction e with
        | zero =>
          intro K h2 f2 hK h82 hA2 hF2
          have : K = mm + 1 := by omega
          subst this
          have p32 : h2 32 = mo (nI n) a fd := by rw [hF2 32 (by decide)]; exact hm
          refine r_X5_own_89 (pk_lt (mm + 1) (mm + 1 + 1) (fun _ => ⟨39, gR_o (by decide) p32 rfl, _, lJ_o (by decide) h82 (by omega), ?_⟩) (fun c => absurd c (by omega)))
          rw [lc_eq, hA2 (mm + 1) (by omega)]
          rw [show ow x.toInt64 (mm + 1) q t = if ps x.toInt64 q (mm + 1) (mm + 1) = 0 then ow x.toInt64 mm (ps x.toInt64 q (mm + 1)) (t + 1) else t from rfl] at he
          rw [show nI (mm + 1) + (-1 : Int32) = nI mm from pk_m1 mm]
          refine ⟨fun c => ⟨fun _ => ?_, fun c2 => absurd rfl c2⟩, fun c => ⟨fun c2 => absurd c2 (by decide), fun _ => ?_⟩⟩
          · rw [if_neg c] at he
            rw [nI0]
            refine r_X5_own_77 ⟨fun _ => ?_, fun c2 => absurd rfl c2⟩
            have := hP h2 f2 h82 hF2
            rw [he] at this; exact this
          · rw [if_pos c] at he
            rw [nI1]
            exact ih (t + 1) h2 f2 _ (by omega) h82 hA2 hF2 he
        | succ e ihe =>
          intro K h2 f2 hK h82 hA2 hF2
          have p32 : h2 32 = mo (nI n) a fd := by rw [hF2 32 (by decide)]; exact hm
          refine r_X5_own_89 (pk_lt (mm + 1) (K + 1) (fun c => absurd c (by omega)) (fun _ => ⟨39, gR_o (by decide) p32 rfl, 39, gR_o (by decide) p32 rfl, _, lJ_o (by decide) h82 (by omega), 39, gR_o (by decide) p32 rfl, f2 K, ?_, _, sJ_o (by decide) h82 (by omega), ?_⟩))
          · rw [show nI (K + 1) - 1 = nI K from nI_pred K]; exact lJ_o (by decide) h82 (by omega)
          · rw [nI1]
            refine ihe (K + 1) _ _ (by omega) hu_s (hA2.upd ?_) (hF2.tr (Fr.hu (S := R39) rfl))
            rw [hA2 (K + 1) (by omega), hA2 K (by omega)]
      exact inner (mm + 1) 0 h1 f (by omega) h8 hA hF
  have l2 : ∀ (e k : Nat) (h1 : Hp) (f : Nat → Int64), k + e = n + 1 → h1 39 = jA 11 f → (∀ j, j < k → f j = q0 E j) → Fr R39 h h1 → L_X5_own_25 d P h1 32 x (nI k) := by
    intro e
    induction e with
    | zero =>
      intro k h1 f hk h8 hA hF
      have p32 : h1 32 = mo (nI n) a fd := by rw [hF 32 (by decide)]; exact hm
      refine r_X5_own_25 ⟨nI n, gI_o (by decide) p32 rfl, pk_lt n k (fun _ => ⟨nI n, gI_o (by decide) p32 rfl, ?_⟩) (fun c => absurd c (by omega))⟩
      exact l77 n 0 h1 f (q0 E) (by omega) h8 (fun j hj => hA j (by omega)) hF rfl
    | succ e ih =>
      intro k h1 f hk h8 hA hF
      have p32 : h1 32 = mo (nI n) a fd := by rw [hF 32 (by decide)]; exact hm
      have p38 : h1 38 = jA 11 ef := by rw [hF 38 (by decide)]; exact h38
      refine r_X5_own_25 ⟨nI n, gI_o (by decide) p32 rfl, pk_lt n k (fun c => absurd c (by omega)) (fun _ => ⟨39, gR_o (by decide) p32 rfl, ?_⟩)⟩
      rw [irem2 (by omega), nI1]
      have fin : ∀ v, v = q0 E k → L_X5_own_25 d P (hu h1 39 (jA 11 (vp_updL f k v))) 32 x (nI (k + 1)) := fun v hv => by
        refine ih (k + 1) _ _ (by omega) hu_s (fun j hj => ?_) (hF.tr (Fr.hu (S := R39) rfl))
        by_cases r : j = k
        · rw [r, vp_s, hv]
        · rw [vp_n r]; exact hA j (by omega)
      refine pq_ne (k % 2) 0 (fun q => ⟨38, gR_o (by decide) p32 rfl, _, lJ_o (by decide) p38 (by omega), _, sJ_o (by decide) h8 (by omega), fin _ ?_⟩) (fun q => ⟨38, gR_o (by decide) p32 rfl, _, lJ_o (by decide) p38 (by omega), _, sJ_o (by decide) h8 (by omega), fin _ ?_⟩) rfl rfl (by omega) (by omega)
      · rw [hE k (by omega)]; unfold q0; rw [if_neg q]
      · rw [hE k (by omega)]; unfold q0; rw [if_pos q]
  exact l2 (n + 1) 0 h rf (by omega) h39 (fun j hj => absurd hj (by omega)) Fr.rf
theorem op_own {n a : Nat} {g : Nat → Nat → Bool} {fd : Int32} {sh : Sh} (G : Gd n g a sh) (x : Int32) : OpI M_X4_own M_X5_own [.int x] n g a fd sh := by
  have hn := G.1
  by_cases hw : (-20 : Int32) ≤ x ∧ x ≤ 20
  · obtain ⟨E, R, hE⟩ := FS.ex (Am_sy (a := 0) G.2.1) n
    refine ⟨nI (ow x.toInt64 n (q0 E) 0), n, g, a, fd, sh, G, fun d h P hC hP => ?_, fun d h P hM hP => ?_⟩
    · refine e_X4_own hC.ok ⟨fun c => absurd hw.1 (Int32.not_le.mpr c), fun _ => ⟨fun _ => ⟨5, g2 hC, 1, g0 hC, s_takeC (a0 := 0) hn (by omega) G.2.1 hC hE (fun h' hC' hS hF => ⟨5, g2 hC', s_timesOwn hn hS (fun h2 f2 q1 q2 => ?_)⟩)⟩, fun c => absurd hw.2 c⟩⟩
      refine hP h2 (hC'.sums ?_ (q2.mono (fun k hk => by show 5 ≤ k ∧ k < 20; omega))) ((hF.mono (fun _ => S15C)).tr (q2.mono (fun k hk => by show k < 32; omega)))
      obtain ⟨a1, a2, a3, a4, a5⟩ := hS.sm0
      exact ⟨by rw [q2 5 (by decide)]; exact a1, by rw [q2 6 (by decide)]; exact a2, by rw [q2 7 (by decide)]; exact a3, ⟨f2, q1⟩, fun i hi => by rw [q2 (9 + i) (by omega)]; exact a5 i hi⟩
    · refine e_X5_own (mo_ok hM.1) (s_in (bz (fun _ => ⟨nI n, m0 hM, s_reckM (a0 := 0) hn (by omega) hM hE (fun h' f hM' q1 q2 hF => ?_)⟩) (fun c => absurd hw (of_decide_eq_false c))))
      obtain ⟨c1, c2, c3, c4, c5, ⟨rf, c6⟩, c7, c8, c9⟩ := hM'.2.2.1
      refine l_ownM hn hM'.1 q1 q2 c6 (fun h2 f2 p1 p2 => hP h2 (hM'.rk ?_ (p2.mono (fun k hk => by show 34 ≤ k ∧ k < 40; rw [show k = 39 from hk]; decide))) ((hF.mono (fun _ => M48C)).tr (p2.mono (fun k hk => by show 32 ≤ k; rw [show k = 39 from hk]; decide))))
      exact ⟨by rw [p2 34 (by decide)]; exact c1, by rw [p2 35 (by decide)]; exact c2, by rw [p2 36 (by decide)]; exact c3, by rw [p2 37 (by decide)]; exact c4, by rw [p2 38 (by decide)]; exact c5, ⟨f2, p1⟩, by rw [p2 40 (by decide)]; exact c7, by rw [p2 41 (by decide)]; exact c8, by rw [p2 46 (by decide)]; exact c9⟩
  · refine ⟨-2, n, g, a, fd, sh, G, fun d h P hC hP => ?_, fun d h P hM hP => ?_⟩
    · exact e_X4_own hC.ok ⟨fun _ => hP h hC Fr.rf, fun c => ⟨fun c2 => absurd ⟨Int32.not_lt.mp c, c2⟩ hw, fun _ => hP h hC Fr.rf⟩⟩
    · exact e_X5_own (mo_ok hM.1) (s_in (bz (fun c => absurd (of_decide_eq_true c) hw) (fun _ => hP h hM Fr.rf)))
