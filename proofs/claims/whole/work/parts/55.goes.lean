/-! ===== goes, ways, grow ===== -/
theorem rk_iff {E : Nat → Int} {dd : Nat} : ∀ n, rk E n ≤ dd ↔ ∀ k, dd < k → k ≤ n → 1 ≤ k → oL (E k) = 0
  | 0 => ⟨fun _ k h1 h2 h3 => absurd h2 (by omega), fun _ => Nat.zero_le _⟩
  | n + 1 => by
    rw [show rk E (n + 1) = if oL (E (n + 1)) = 0 then rk E n else n + 1 from rfl]
    by_cases c : oL (E (n + 1)) = 0
    · rw [if_pos c, rk_iff n]
      refine ⟨fun h k h1 h2 h3 => ?_, fun h k h1 h2 h3 => h k h1 (by omega) h3⟩
      by_cases q : k = n + 1
      · rw [q]; exact c
      · exact h k h1 (by omega) h3
    · rw [if_neg c]
      refine ⟨fun h k h1 h2 h3 => absurd h2 (by omega), fun h => Nat.not_lt.mp (fun q => c (h (n + 1) q (Nat.le_refl _) (by omega)))⟩
/-- the first sum: the diagonal -/
theorem FS.one {n a : Nat} {g : Nat → Nat → Bool} {E : Nat → Int} {R : Nat → Nat → Nat → Int} (h : FS n (Am a g) E R) : E 1 = (n : Int) * (a : Int) := by
  have h1 := h.nw 0
  rw [sm_cong (g := fun _ => (a : Int) * 1) (fun i hi => by
    rw [sm_cong (g := fun l => Am a g i l * dl l i) (fun l hl => by rw [h.2.1.1 l i hl hi, h.1, Int.one_mul]), sm_d hi]
    unfold Am; simp), sm_mul, sm_one] at h1
  have e : ((0 : Nat) : Int) + 1 = 1 := by omega
  rw [e, Int.one_mul] at h1
  have h1 : E 1 = (a : Int) * (n : Int) := h1
  rw [h1, Int.mul_comm]
theorem LI_iff {n a dd : Nat} {g : Nat → Nat → Bool} {F : Nat → Int} {Q : Nat → Nat → Nat → Int} (hn : n < 10) (ha : a ≤ 9) (h3 : 3 ≤ a) (hd : 1 ≤ dd) (h : FS (n + 1) (Am a g) F Q) : LI n dd F 0 ↔ (NBZ F (n + 1) ∧ rk F (n + 1) ≤ dd) := by
  have e1 := h.one
  have hm : (n + 1) * a ≤ 100 := by
    have := Nat.mul_le_mul (show n + 1 ≤ 10 by omega) (show a ≤ 10 by omega)
    omega
  have pos : ¬ oL (F 1) < 0 := by
    rw [e1]
    intro c
    have c2 := Int64.lt_iff_toInt_lt.mp c
    have e : ((n + 1 : Nat) : Int) * (a : Int) = (((n + 1) * a : Nat) : Int) := by rw [Int.natCast_mul]
    rw [e, oL_t (by omega) (by omega)] at c2
    have h0 : (0 : Int64).toInt = 0 := by decide
    omega
  rw [rk_iff]
  constructor
  · intro hL
    refine ⟨fun k h1 h2 => ?_, fun k h1 h2 h3 => (hL k (by omega) (by omega) h2).2 h1⟩
    by_cases q : k = 1
    · rw [q]; exact pos
    · exact (hL k (by omega) (by omega) h2).1
  · rintro ⟨h1, h2⟩ k q1 q2 q3
    exact ⟨h1 k (by omega) q3, fun q => h2 k q q3 (by omega)⟩
/-- a line with the bits x goes -/
def Go (n a dd : Nat) (g : Nat → Nat → Bool) (E : Nat → Int) (R : Nat → Nat → Nat → Int) (x : Int32) : Prop := LI n dd (Fx a n g (bt x) E R) 0
theorem s_fits {d : Nat} {P : Int32 → Hp → Prop} {h : Hp} {n a dd : Nat} {g : Nat → Nat → Bool} {fd x : Int32} {sh : Sh} {E : Nat → Int} {R : Nat → Nat → Nat → Int} (hn : n < 10) (ha : a ≤ 9) (h3 : 3 ≤ a) (hd : 1 ≤ dd) (hdd : dd ≤ 20) (hg : WF n g) (hM : MX h n g a fd sh) (hE : FS n (Am a g) E R) (hP1 : Go n a dd g E R x → ∀ h' t', MX h' n g a fd sh → h' 33 = iA 100 t' → TM t' (n + 1) (adg g (bt x) n n) → Fr MM32 h h' → P 1 h') (hP0 : ¬ Go n a dd g E R x → ∀ h', MX h' n g a fd sh → Fr MM32 h h' → P 0 h') : CI M_X5_fits (d + 3) [.ref 32, .int x, .int (nI dd)] h P := by
  obtain ⟨t, ht, hT⟩ := hM.2.1
  have hE' : FS n (Am a (adg g (bt x) n n)) E R := hE.cong (fun i j hi hj => Am_ad.1 i j hi hj)
  have hB := hE'.border (Am_sy (wf_add hg))
  have loop : ∀ (e k : Nat) (h1 : Hp) (t1 : Nat → Int32), k + e = n → MX h1 n g a fd sh → h1 33 = iA 100 t1 → RM t1 n g (bt x) k → Fr MM32 h h1 → L_X5_fits_2 (d + 2) P h1 32 x (nI dd) (nI k) := by
    intro e
    induction e with
    | zero =>
      intro k h1 t1 hk hM1 ht1 hR hF
      have : k = n := by omega
      subst this
      refine r_X5_fits_2 ⟨nI k, m0 hM1, pk_le k k (fun _ => ⟨nI k, m0 hM1, nI a, man hM1, ?_⟩) (fun c => absurd c (by omega))⟩
      rw [nI1]
      refine s_reckon (by omega) ha hM1.1 ht1 hR.full hM1.2.2.1 hB (fun h2 f q1 q2 q3 q4 => ?_)
      have hM2 := hM1.rk q3 (q4.mono (fun _ => M48a))
      have ht2 : h2 33 = iA 100 t1 := by rw [q4 33 (by decide)]; exact ht1
      have hF2 := hF.tr (q4.mono (fun _ => M48C))
      refine ⟨nI k, m0 hM2, ?_⟩
      rw [nI1]
      refine s_liesAll (by omega) hM2.1 q1 q2 hB.1 (fun c1 => ⟨fun c => absurd c (by decide), fun _ => ⟨nI k, m0 hM2, ?_⟩⟩) (fun c1 => ⟨fun _ => hP0 (fun q => c1 ((LI_iff hn ha h3 hd hB).mp q).1) h2 hM2 hF2, fun c => absurd rfl c⟩)
      rw [nI1]
      refine s_rankOf (by omega) hM2.1 q1 q2 (pk_lt dd (rk (Fb (Am a (adg g (bt x) k k)) k E R) (k + 1)) (fun c => hP0 (fun q => ?_) h2 hM2 hF2) (fun c => hP1 ((LI_iff hn ha h3 hd hB).mpr ⟨c1, c⟩) h2 t1 hM2 ht2 hR.full hF2) rfl rfl (by omega) (by have := rk_le (Fb (Am a (adg g (bt x) k k)) k E R) (k + 1); omega))
      have := ((LI_iff hn ha h3 hd hB).mp q).2
      omega
    | succ e ih =>
      intro k h1 t1 hk hM1 ht1 hR hF
      have fin : ∀ v, v = pm (bt x k) → CV M_X5_set (d + 2) [.ref 32, .int (nI n), .int (nI k), .int v] h1 (fun h6 => L_X5_fits_2 (d + 2) P h6 32 x (nI dd) (nI k + (1 : Int32))) := fun v hv => by
        refine s_setM hM1.1 ht1 (by omega) (by omega) (fun h' ht' hF' => ?_)
        rw [nI1]
        have hR' := hR.set hn (by omega) hv
        exact ih (k + 1) h' _ (by omega) (hM1.tab (by rw [hF' 32 (by decide)]; exact hM1.1) ht' hR'.1 (hF'.mono M12)) ht' hR' (hF.tr ((hF'.mono M12).mono (fun _ => M2C)))
      refine r_X5_fits_2 ⟨nI n, m0 hM1, pk_le n k (fun c => absurd c (by omega)) (fun c => ⟨nI n, m0 hM1, bitcases (by omega) (fun q => fin 1 (by rw [q]; rfl)) (fun q => fin (-1) (by rw [q]; rfl))⟩)⟩
  exact e_X5_fits (mo_ok hM.1) (loop n 0 h t (by omega) hM ht ⟨hT, fun i hi => absurd hi (by omega)⟩ Fr.rf)
theorem s_refusal {d : Nat} {P : Int32 → Hp → Prop} {h : Hp} {n a : Nat} {g : Nat → Nat → Bool} {fd : Int32} {sh : Sh} (hn : n ≤ 10) (hC : CX h n g a fd sh) (hP : P (if n = 0 then -3 else if n = 10 then -4 else 0) h) : CI M_X4_refusalOfOneMore (d + 1) [.ref 0] h P := by
  refine e_X4_refusalOfOneMore hC.ok ⟨1, g0 hC, nI n, gsz hC, pq_ne n 0 (fun q => ⟨1, g0 hC, nI n, gsz hC, pk_lt n 10 (fun c => ?_) (fun c => ?_)⟩) (fun q => ?_)⟩
  · rw [if_neg q, if_neg (by omega)] at hP; exact hP
  · rw [if_neg q, if_pos (by omega)] at hP; exact hP
  · rw [if_pos q] at hP; exact hP
theorem s_inD {d : Nat} {P : Int32 → Hp → Prop} {h : Hp} {x : Int32} (hP : P (b2i (decide (1 ≤ x ∧ x ≤ 20))) h) : CI M_X5_in (d + 1) [.int x, .int 1, .int 20] h P := s_in hP
theorem op_goes {n a : Nat} {g : Nat → Nat → Bool} {fd : Int32} {sh : Sh} (G : Gd n g a sh) (x y : Int32) : OpI M_X4_goes M_X5_goes [.int x, .int y] n g a fd sh := by
  have hn := G.1
  have ha := an9 G.2.2.1
  cases hr : rowOk n x
  · refine ⟨-2, n, g, a, fd, sh, G, fun d h P hC hP => ?_, fun d h P hM hP => ?_⟩
    · exact e_X4_goes hC.ok ⟨1, g0 hC, s_isRow hn hC.2.1 (zb (fun _ => hP h hC Fr.rf) (fun c => absurd (hr.symm.trans c) (by decide)))⟩
    · exact e_X5_goes (mo_ok hM.1) (s_inD (zb (fun _ => hP h hM Fr.rf) (fun _ => s_isRowM hn hM (bz (fun c => absurd (hr.symm.trans c) (by decide)) (fun _ => hP h hM Fr.rf)))))
  · cases hy : decide ((1 : Int32) ≤ y ∧ y ≤ 20)
    · refine ⟨-2, n, g, a, fd, sh, G, fun d h P hC hP => ?_, fun d h P hM hP => ?_⟩
      · exact e_X4_goes hC.ok ⟨1, g0 hC, s_isRow hn hC.2.1 (zb (fun _ => hP h hC Fr.rf) (fun _ => s_isDim (bz (fun c => absurd (hy.symm.trans c) (by decide)) (fun _ => hP h hC Fr.rf))))⟩
      · exact e_X5_goes (mo_ok hM.1) (s_inD (zb (fun _ => hP h hM Fr.rf) (fun c => absurd (hy.symm.trans c) (by decide))))
    · obtain ⟨dd, hd1, hd2, rfl⟩ := dim_nat hy
      have comp : ∀ (d : Nat) (h : Hp) (P : Int32 → Hp → Prop), CX h n g a fd sh → ((if n = 0 then (-3 : Int32) else if n = 10 then -4 else 0) = 0 → CV M_X2_take (d + 19) [.ref 5, .ref 1, .int (nI a)] h (fun h11 => ∃ q12, gR h11 4 0 2 = some q12 ∧ CI M_X2_letsIn (d + 19) [.ref q12, .int x, .int (nI dd)] h11 (fun x14 h13 => ((x14 = 0 → P 0 h13) ∧ (¬ x14 = 0 → P 1 h13))))) → (¬ (if n = 0 then (-3 : Int32) else if n = 10 then -4 else 0) = 0 → P (if n = 0 then (-3 : Int32) else if n = 10 then -4 else 0) h) → CI M_X4_goes (d + 20) [.ref 0, .int x, .int (nI dd)] h P := fun d h P hC f1 f2 => by
        exact e_X4_goes hC.ok ⟨1, g0 hC, s_isRow hn hC.2.1 (zb (fun c => absurd (hr.symm.trans c) (by decide)) (fun _ => s_isDim (bz (fun _ => s_refusal hn hC ⟨fun c => ⟨5, g2 hC, 1, g0 hC, nI a, gan hC, f1 c⟩, f2⟩) (fun c => absurd (hy.symm.trans c) (by decide)))))⟩
      have mod : ∀ (d : Nat) (h : Hp) (P : Int32 → Hp → Prop), MX h n g a fd sh → (n = 0 → P (-3) h) → (n = 10 → P (-4) h) → (n ≠ 0 → n ≠ 10 → CI M_X5_fits (d + 19) [.ref 32, .int x, .int (nI dd)] h (fun x8 h7 => ((x8 = 0 → P 0 h7) ∧ (¬ x8 = 0 → P 1 h7)))) → CI M_X5_goes (d + 20) [.ref 32, .int x, .int (nI dd)] h P := fun d h P hM f1 f2 f3 => by
        exact e_X5_goes (mo_ok hM.1) (s_inD (zb (fun c => absurd (hy.symm.trans c) (by decide)) (fun _ => s_isRowM hn hM (bz (fun _ => ⟨nI n, m0 hM, pq_ne n 0 (fun q => ⟨nI n, m0 hM, pq_ne n 10 (fun q2 => f3 q q2) (fun q2 => f2 q2)⟩) (fun q => f1 q)⟩) (fun c => absurd (hr.symm.trans c) (by decide))))))
      by_cases z0 : n = 0
      · refine ⟨-3, n, g, a, fd, sh, G, fun d h P hC hP => comp d h P hC (fun c => absurd c (by rw [if_pos z0]; decide)) (fun _ => by rw [if_pos z0]; exact hP h hC Fr.rf), fun d h P hM hP => mod d h P hM (fun _ => hP h hM Fr.rf) (fun c => absurd z0 (by omega)) (fun c => absurd z0 c)⟩
      · by_cases z1 : n = 10
        · refine ⟨-4, n, g, a, fd, sh, G, fun d h P hC hP => comp d h P hC (fun c => absurd c (by rw [if_neg z0, if_pos z1]; decide)) (fun _ => by rw [if_neg z0, if_pos z1]; exact hP h hC Fr.rf), fun d h P hM hP => mod d h P hM (fun c => absurd c z0) (fun _ => hP h hM Fr.rf) (fun _ c => absurd z1 c)⟩
        · obtain ⟨E, R, hE⟩ := FS.ex (Am_sy (a := a) G.2.1) n
          by_cases q : Go n a dd g E R x
          · refine ⟨1, n, g, a, fd, sh, G, fun d h P hC hP => comp d h P hC (fun _ => ?_) (fun c => absurd (by rw [if_neg z0, if_neg z1]) c), fun d h P hM hP => mod d h P hM (fun c => absurd c z0) (fun c => absurd c z1) (fun _ _ => ?_)⟩
            · exact s_takeC hn ha.1 G.2.1 hC hE (fun h' hC' hS hF => ⟨5, g2 hC', s_letsIn hn (by omega) ha.1 hd2 G.2.1 hE hS (fun _ => ⟨fun c => absurd c (by decide), fun _ => hP h' hC' (hF.mono (fun _ => S15C))⟩) (fun c => absurd q c)⟩)
            · exact s_fits (by omega) ha.1 ha.2 hd1 hd2 G.2.1 hM hE (fun _ h' t' hM' _ _ hF => ⟨fun c => absurd c (by decide), fun _ => hP h' hM' hF⟩) (fun c => absurd q c)
          · refine ⟨0, n, g, a, fd, sh, G, fun d h P hC hP => comp d h P hC (fun _ => ?_) (fun c => absurd (by rw [if_neg z0, if_neg z1]) c), fun d h P hM hP => mod d h P hM (fun c => absurd c z0) (fun c => absurd c z1) (fun _ _ => ?_)⟩
            · exact s_takeC hn ha.1 G.2.1 hC hE (fun h' hC' hS hF => ⟨5, g2 hC', s_letsIn hn (by omega) ha.1 hd2 G.2.1 hE hS (fun c => absurd c q) (fun _ => ⟨fun _ => hP h' hC' (hF.mono (fun _ => S15C)), fun c => absurd rfl c⟩)⟩)
            · exact s_fits (by omega) ha.1 ha.2 hd1 hd2 G.2.1 hM hE (fun c => absurd c q) (fun _ h' hM' hF => ⟨fun _ => hP h' hM' hF, fun c => absurd rfl c⟩)
noncomputable def goB (n a dd : Nat) (g : Nat → Nat → Bool) (E : Nat → Int) (R : Nat → Nat → Nat → Int) (j : Nat) : Bool := @decide (Go n a dd g E R (nI (2 * j))) (Classical.propDecidable _)
theorem goB_t {n a dd j : Nat} {g : Nat → Nat → Bool} {E : Nat → Int} {R : Nat → Nat → Nat → Int} (h : Go n a dd g E R (nI (2 * j))) : goB n a dd g E R j = true := @decide_eq_true _ (Classical.propDecidable _) h
theorem goB_f {n a dd j : Nat} {g : Nat → Nat → Bool} {E : Nat → Int} {R : Nat → Nat → Nat → Int} (h : ¬ Go n a dd g E R (nI (2 * j))) : goB n a dd g E R j = false := @decide_eq_false _ (Classical.propDecidable _) h
theorem nI2 (j : Nat) : nI (2 * j) + (2 : Int32) = nI (2 * (j + 1)) := by rw [show (2 : Int32) = nI 2 from rfl, nI_add]; rfl
theorem pow_h {n : Nat} (h1 : 1 ≤ n) (hn : n ≤ 10) : 2 ^ n = 2 * 2 ^ (n - 1) ∧ 2 ^ (n - 1) ≤ 512 := by
  have : ∀ n, n ≤ 10 → 1 ≤ n → 2 ^ n = 2 * 2 ^ (n - 1) ∧ 2 ^ (n - 1) ≤ 512 := by decide
  exact this n hn h1
theorem op_ways {n a : Nat} {g : Nat → Nat → Bool} {fd : Int32} {sh : Sh} (G : Gd n g a sh) (y : Int32) : OpI M_X4_ways M_X5_ways [.int y] n g a fd sh := by
  have hn := G.1
  have ha := an9 G.2.2.1
  cases hy : decide ((1 : Int32) ≤ y ∧ y ≤ 20)
  · refine ⟨-2, n, g, a, fd, sh, G, fun d h P hC hP => ?_, fun d h P hM hP => ?_⟩
    · exact e_X4_ways hC.ok (s_isDim (bz (fun c => absurd (hy.symm.trans c) (by decide)) (fun _ => hP h hC Fr.rf)))
    · exact e_X5_ways (mo_ok hM.1) (s_inD (bz (fun c => absurd (hy.symm.trans c) (by decide)) (fun _ => hP h hM Fr.rf)))
  · obtain ⟨dd, hd1, hd2, rfl⟩ := dim_nat hy
    by_cases z0 : n = 0
    · refine ⟨-3, n, g, a, fd, sh, G, fun d h P hC hP => ?_, fun d h P hM hP => ?_⟩
      · exact e_X4_ways hC.ok (s_isDim (bz (fun _ => s_refusal hn hC (by rw [if_pos z0]; exact ⟨fun c => absurd c (by decide), fun _ => hP h hC Fr.rf⟩)) (fun c => absurd (hy.symm.trans c) (by decide))))
      · exact e_X5_ways (mo_ok hM.1) (s_inD (bz (fun _ => ⟨nI n, m0 hM, pq_ne n 0 (fun c => absurd z0 c) (fun _ => hP h hM Fr.rf)⟩) (fun c => absurd (hy.symm.trans c) (by decide))))
    · by_cases z1 : n = 10
      · refine ⟨-4, n, g, a, fd, sh, G, fun d h P hC hP => ?_, fun d h P hM hP => ?_⟩
        · exact e_X4_ways hC.ok (s_isDim (bz (fun _ => s_refusal hn hC (by rw [if_neg z0, if_pos z1]; exact ⟨fun c => absurd c (by decide), fun _ => hP h hC Fr.rf⟩)) (fun c => absurd (hy.symm.trans c) (by decide))))
        · exact e_X5_ways (mo_ok hM.1) (s_inD (bz (fun _ => ⟨nI n, m0 hM, pq_ne n 0 (fun _ => ⟨nI n, m0 hM, pq_ne n 10 (fun c => absurd z1 c) (fun _ => hP h hM Fr.rf)⟩) (fun c => absurd c z0)⟩) (fun c => absurd (hy.symm.trans c) (by decide))))
      · obtain ⟨E, R, hE⟩ := FS.ex (Am_sy (a := a) G.2.1) n
        obtain ⟨p1, p2⟩ := pow_h (n := n) (by omega) hn
        refine ⟨nI (fb_ct (goB n a dd g E R) (2 ^ (n - 1))), n, g, a, fd, sh, G, fun d h P hC hP => ?_, fun d h P hM hP => ?_⟩
        · refine e_X4_ways hC.ok (s_isDim (bz (fun _ => s_refusal hn hC (by
            rw [if_neg z0, if_neg z1]
            refine ⟨fun _ => ⟨5, g2 hC, 1, g0 hC, nI a, gan hC, s_takeC hn ha.1 G.2.1 hC hE (fun h' hC' hS hF => ?_)⟩, fun c => absurd rfl c⟩
            have loop : ∀ (e j : Nat), j + e = 2 ^ (n - 1) → L_X4_ways_41 (d + 19) P h' 0 (nI dd) (nI (fb_ct (goB n a dd g E R) j)) (nI (2 * j)) := by
              intro e
              induction e with
              | zero =>
                intro j hj
                refine r_X4_ways_41 ⟨1, g0 hC', nI n, gsz hC', ?_⟩
                rw [ishl1 (by omega)]
                refine pk_le (2 ^ n) (2 * j) (fun _ => ?_) (fun c => absurd c (by omega)) rfl rfl (by omega) (by omega)
                rw [show j = 2 ^ (n - 1) by omega]
                exact hP h' hC' (hF.mono (fun _ => S15C))
              | succ e ih =>
                intro j hj
                refine r_X4_ways_41 ⟨1, g0 hC', nI n, gsz hC', ?_⟩
                rw [ishl1 (by omega)]
                have := ih (j + 1) (by omega)
                rw [fb_ct_succ] at this
                refine pk_le (2 ^ n) (2 * j) (fun c => absurd c (by omega)) (fun _ => ⟨5, g2 hC', s_letsIn hn (by omega) ha.1 hd2 G.2.1 hE hS (fun q => ⟨fun c => absurd c (by decide), fun _ => ?_⟩) (fun q => ⟨fun _ => ?_, fun c => absurd rfl c⟩)⟩) rfl rfl (by omega) (by omega)
                · rw [goB_t q] at this; rw [nI2, nI1]; exact this
                · rw [goB_f q] at this; rw [nI2]; exact this
            exact loop (2 ^ (n - 1)) 0 (by omega))) (fun c => absurd (hy.symm.trans c) (by decide))))
        · refine e_X5_ways (mo_ok hM.1) (s_inD (bz (fun _ => ⟨nI n, m0 hM, pq_ne n 0 (fun _ => ⟨nI n, m0 hM, pq_ne n 10 (fun _ => ?_) (fun c => absurd c z1)⟩) (fun c => absurd c z0)⟩) (fun c => absurd (hy.symm.trans c) (by decide))))
          have loop : ∀ (e j : Nat) (h1 : Hp), j + e = 2 ^ (n - 1) → MX h1 n g a fd sh → Fr MM32 h h1 → L_X5_ways_39 (d + 19) P h1 32 (nI dd) (nI (fb_ct (goB n a dd g E R) j)) (nI (2 * j)) := by
            intro e
            induction e with
            | zero =>
              intro j h1 hj hM1 hF
              refine r_X5_ways_39 ⟨nI n, m0 hM1, ?_⟩
              rw [ishl1 (by omega)]
              refine pk_le (2 ^ n) (2 * j) (fun _ => ?_) (fun c => absurd c (by omega)) rfl rfl (by omega) (by omega)
              rw [show j = 2 ^ (n - 1) by omega]
              exact hP h1 hM1 hF
            | succ e ih =>
              intro j h1 hj hM1 hF
              refine r_X5_ways_39 ⟨nI n, m0 hM1, ?_⟩
              rw [ishl1 (by omega)]
              refine pk_le (2 ^ n) (2 * j) (fun c => absurd c (by omega)) (fun _ => s_fits (by omega) ha.1 ha.2 hd1 hd2 G.2.1 hM1 hE (fun q h' t' hM' _ _ hF' => ⟨fun c => absurd c (by decide), fun _ => ?_⟩) (fun q h' hM' hF' => ⟨fun _ => ?_, fun c => absurd rfl c⟩)) rfl rfl (by omega) (by omega)
              · have := ih (j + 1) h' (by omega) hM' (hF.tr hF')
                rw [fb_ct_succ, goB_t q] at this; rw [nI2, nI1]; exact this
              · have := ih (j + 1) h' (by omega) hM' (hF.tr hF')
                rw [fb_ct_succ, goB_f q] at this; rw [nI2, nI0]; exact this
          exact loop (2 ^ (n - 1)) 0 h (by omega) hM Fr.rf
