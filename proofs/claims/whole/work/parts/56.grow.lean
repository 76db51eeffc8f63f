/-! ===== grow ===== -/
theorem s_leastGoing {d : Nat} {P : Int32 → Hp → Prop} {h : Hp} {n a dd : Nat} {g : Nat → Nat → Bool} {fd : Int32} {sh : Sh} {E : Nat → Int} {R : Nat → Nat → Nat → Int} (h1 : 1 ≤ n) (hn : n ≤ 10) (ha : a ≤ 9) (hdd : dd ≤ 20) (hg : WF n g) (hC : CX h n g a fd sh) (hE : FS n (Am a g) E R) (hP0 : (∀ j, j < 2 ^ (n - 1) → ¬ Go n a dd g E R (nI (2 * j))) → ∀ h', CX h' n g a fd sh → Fr CC32 h h' → P (-1) h') (hP1 : ∀ j, j < 2 ^ (n - 1) → Go n a dd g E R (nI (2 * j)) → (∀ i, i < j → ¬ Go n a dd g E R (nI (2 * i))) → ∀ h', CX h' n g a fd sh → Fr CC32 h h' → P (nI (2 * j)) h') : CI M_X4_leastGoing (d + 5) [.ref 0, .int (nI dd)] h P := by
  obtain ⟨p1, p2⟩ := pow_h h1 hn
  refine e_X4_leastGoing hC.ok ⟨5, g2 hC, 1, g0 hC, nI a, gan hC, s_takeC hn ha hg hC hE (fun h' hC' hS hF => ?_)⟩
  have loop : ∀ (e j : Nat), j + e = 2 ^ (n - 1) → (∀ i, i < j → ¬ Go n a dd g E R (nI (2 * i))) → L_X4_leastGoing_17 (d + 4) P h' 0 (nI dd) (nI (2 * j)) := by
    intro e
    induction e with
    | zero =>
      intro j hj hall
      refine r_X4_leastGoing_17 ⟨1, g0 hC', nI n, gsz hC', ?_⟩
      rw [ishl1 (by omega)]
      refine pk_le (2 ^ n) (2 * j) (fun _ => ?_) (fun c => absurd c (by omega)) rfl rfl (by omega) (by omega)
      exact hP0 (fun i hi => hall i (by omega)) h' hC' (hF.mono (fun _ => S15C))
    | succ e ih =>
      intro j hj hall
      refine r_X4_leastGoing_17 ⟨1, g0 hC', nI n, gsz hC', ?_⟩
      rw [ishl1 (by omega)]
      refine pk_le (2 ^ n) (2 * j) (fun c => absurd c (by omega)) (fun _ => ⟨5, g2 hC', s_letsIn hn h1 ha hdd hg hE hS (fun q => ⟨fun c => absurd c (by decide), fun _ => ?_⟩) (fun q => ⟨fun _ => ?_, fun c => absurd rfl c⟩)⟩) rfl rfl (by omega) (by omega)
      · exact hP1 j (by omega) q hall h' hC' (hF.mono (fun _ => S15C))
      · rw [nI2]
        refine ih (j + 1) (by omega) (fun i hi => ?_)
        by_cases r : i = j
        · rw [r]; exact q
        · exact hall i (by omega)
  exact loop (2 ^ (n - 1)) 0 (by omega) (fun i hi => absurd hi (by omega))
theorem grow_ex {a dd : Nat} {fd : Int32} {sh : Sh} (ha : a ≤ 9) (h3 : 3 ≤ a) (hd1 : 1 ≤ dd) (hd2 : dd ≤ 20) : ∀ (e n : Nat) (g : Nat → Nat → Bool), n + e = 10 → 1 ≤ n → WF n g → ∃ (n' : Nat) (g' : Nat → Nat → Bool), n' ≤ 10 ∧ WF n' g' ∧
    (∀ (d : Nat) (h : Hp) (P : Int32 → Hp → Prop), CX h n g a fd sh → (∀ h', CX h' n' g' a fd sh → Fr CC32 h h' → P (nI n') h') → L_X4_grow_67 (d + 19) P h 0 (nI dd) (nI n)) ∧
    (∀ (d : Nat) (h : Hp) (P : Int32 → Hp → Prop), MX h n g a fd sh → (∀ h', MX h' n' g' a fd sh → Fr MM32 h h' → P (nI n') h') → L_X5_grow_60 (d + 19) P h 32 (nI dd) 1) := by
  intro e
  induction e with
  | zero =>
    intro n g hn h1 hg
    have : n = 10 := by omega
    subst this
    refine ⟨10, g, by omega, hg, fun d h P hC hP => ?_, fun d h P hM hP => ?_⟩
    · exact r_X4_grow_67 (pk_le 10 10 (fun _ => ⟨1, g0 hC, nI 10, gsz hC, hP h hC Fr.rf⟩) (fun c => absurd c (by omega)))
    · exact r_X5_grow_60 ⟨fun c => absurd c (by decide), fun _ => ⟨nI 10, m0 hM, pk_le 10 10 (fun _ => ⟨nI 10, m0 hM, hP h hM Fr.rf⟩) (fun c => absurd c (by omega))⟩⟩
  | succ e ih =>
    intro n g hn h1 hg
    obtain ⟨E, R, hE⟩ := FS.ex (Am_sy (a := a) hg) n
    obtain ⟨p1, p2⟩ := pow_h (n := n) h1 (by omega)
    -- the reference's search
    have srch : ∀ (d : Nat) (h0 : Hp) (P : Int32 → Hp → Prop) (J : Nat), J ≤ 2 ^ (n - 1) → (∀ i, i < J → ¬ Go n a dd g E R (nI (2 * i))) → (∀ h', MX h' n g a fd sh → Fr MM32 h0 h' → L_X5_grow_75 (d + 19) P h' 32 (nI dd) (nI (2 * J))) → ∀ (e j : Nat) (h : Hp), j + e = J → MX h n g a fd sh → Fr MM32 h0 h → L_X5_grow_75 (d + 19) P h 32 (nI dd) (nI (2 * j)) := by
      intro d h0 P J hJ hall hend e
      induction e with
      | zero =>
        intro j h hj hM hF
        rw [show j = J by omega]; exact hend h hM hF
      | succ e ihe =>
        intro j h hj hM hF
        refine r_X5_grow_75 ⟨nI n, m0 hM, ?_⟩
        rw [ishl1 (by omega)]
        refine pk_le (2 ^ n) (2 * j) (fun c => absurd c (by omega)) (fun _ => s_fits (by omega) ha h3 hd1 hd2 hg hM hE (fun q => absurd q (hall j (by omega))) (fun q h' hM' hF' => ⟨fun c => absurd rfl c, fun _ => ?_⟩)) rfl rfl (by omega) (by omega)
        rw [nI2]
        exact ihe (j + 1) h' (by omega) hM' (hF.tr hF')
    by_cases ex : ∃ j, j < 2 ^ (n - 1) ∧ Go n a dd g E R (nI (2 * j))
    · obtain ⟨j, ⟨hj, hgo⟩, hmin⟩ := pk_least (fun j => j < 2 ^ (n - 1) ∧ Go n a dd g E R (nI (2 * j))) ex
      have hall : ∀ i, i < j → ¬ Go n a dd g E R (nI (2 * i)) := fun i hi q => hmin i hi ⟨by omega, q⟩
      obtain ⟨n', g', hn', hg', C, M⟩ := ih (n + 1) (adg g (bt (nI (2 * j))) n n) (by omega) (by omega) (wf_add hg)
      refine ⟨n', g', hn', hg', fun d h P hC hP => ?_, fun d h P hM hP => ?_⟩
      · refine r_X4_grow_67 (pk_le 10 n (fun c => absurd c (by omega)) (fun _ => s_leastGoing (d := d + 14) h1 (by omega) ha hd2 hg hC hE (fun q => absurd ex (fun ⟨i, hi, r⟩ => q i hi r)) (fun i hi q qa h' hC' hF => ⟨fun _ => ?_, fun c => ?_⟩)))
        · have : i = j := by
            rcases Nat.lt_trichotomy i j with r | r | r
            · exact absurd q (hall i r)
            · exact r
            · exact absurd hgo (qa j r)
          subst this
          refine ⟨1, g0 hC', s_addLine (by omega) hg hC'.2.1 (fun h2 hT2 hF2 => ?_)⟩
          rw [nI1]
          exact C d h2 P (hC'.tab hT2 hF2) (fun h3 hC3 hF3 => hP h3 hC3 ((hF.tr (hF2.mono (fun _ => T2C))).tr hF3))
        · exact absurd (c ▸ nI_pos' (show 2 * i < 2 ^ 31 by omega) : (0 : Int32) ≤ -1) (by decide)
      · refine r_X5_grow_60 ⟨fun c => absurd c (by decide), fun _ => ⟨nI n, m0 hM, pk_le 10 n (fun c => absurd c (by omega)) (fun _ => srch d h P j (by omega) hall (fun h2 hM2 hF2 => ?_) j 0 h (by omega) hM Fr.rf)⟩⟩
        refine r_X5_grow_75 ⟨nI n, m0 hM2, ?_⟩
        rw [ishl1 (by omega)]
        refine pk_le (2 ^ n) (2 * j) (fun c => absurd c (by omega)) (fun _ => s_fits (by omega) ha h3 hd1 hd2 hg hM2 hE (fun q h' t' hM' ht' hT' hF' => ⟨fun _ => ⟨nI n, m0 hM', ?_⟩, fun c => absurd c (by decide)⟩) (fun q => absurd hgo q)) rfl rfl (by omega) (by omega)
        rw [ishl1 (by omega)]
        refine pk_le (2 ^ n) (2 * j) (fun c => absurd c (by omega)) (fun _ => ⟨nI n, m0 hM', fun c => absurd c (by decide), fun _ => ⟨_, sF_o (by decide) hM'.1 (by simp), ?_⟩⟩) rfl rfl (by omega) (by omega)
        rw [nI1]
        have e32 : hu h' 32 (mo (nI (n + 1)) (nI a) fd) 32 = mo (nI (n + 1)) (nI a) fd := hu_s
        exact M d (hu h' 32 (mo (nI (n + 1)) (nI a) fd)) P (hM'.tab e32 (by rw [hu_n (by decide)]; exact ht') hT' (Fr.hu (S := M2) (Or.inl rfl))) (fun h4 hM4 hF4 => hP h4 hM4 ((hF2.tr (hF'.tr (Fr.hu (S := MM32) (by decide)))).tr hF4))
    · have none : ∀ i, i < 2 ^ (n - 1) → ¬ Go n a dd g E R (nI (2 * i)) := fun i hi q => ex ⟨i, hi, q⟩
      refine ⟨n, g, by omega, hg, fun d h P hC hP => ?_, fun d h P hM hP => ?_⟩
      · exact r_X4_grow_67 (pk_le 10 n (fun c => absurd c (by omega)) (fun _ => s_leastGoing (d := d + 14) h1 (by omega) ha hd2 hg hC hE (fun _ h' hC' hF => ⟨fun c => absurd rfl c, fun _ => hP h' hC' hF⟩) (fun i hi q => absurd q (none i hi))))
      · refine r_X5_grow_60 ⟨fun c => absurd c (by decide), fun _ => ⟨nI n, m0 hM, pk_le 10 n (fun c => absurd c (by omega)) (fun _ => srch d h P (2 ^ (n - 1)) (Nat.le_refl _) none (fun h2 hM2 hF2 => ?_) (2 ^ (n - 1)) 0 h (by omega) hM Fr.rf)⟩⟩
        refine r_X5_grow_75 ⟨nI n, m0 hM2, ?_⟩
        rw [ishl1 (by omega)]
        refine pk_le (2 ^ n) (2 * 2 ^ (n - 1)) (fun _ => ⟨nI n, m0 hM2, ?_⟩) (fun c => absurd c (by omega)) rfl rfl (by omega) (by omega)
        rw [ishl1 (by omega)]
        refine pk_le (2 ^ n) (2 * 2 ^ (n - 1)) (fun _ => ⟨nI n, m0 hM2, fun _ => ⟨_, sF_o (by decide) hM2.1 (by simp), ?_⟩, fun c => absurd rfl c⟩) (fun c => absurd c (by omega)) rfl rfl (by omega) (by omega)
        rw [nI0]
        have e32 : hu h2 32 (mo (nI n) (nI a) fd) 32 = mo (nI n) (nI a) fd := hu_s
        have hM3 : MX (hu h2 32 (mo (nI n) (nI a) fd)) n g a fd sh := hM2.set32
        exact r_X5_grow_60 ⟨fun _ => ⟨nI n, m0 hM3, hP _ hM3 (hF2.tr (Fr.hu (S := MM32) (by decide)))⟩, fun c => absurd rfl c⟩
theorem op_grow {n a : Nat} {g : Nat → Nat → Bool} {fd : Int32} {sh : Sh} (G : Gd n g a sh) (y : Int32) : OpI M_X4_grow M_X5_grow [.int y] n g a fd sh := by
  have hn := G.1
  have ha := an9 G.2.2.1
  cases hy : decide ((1 : Int32) ≤ y ∧ y ≤ 20)
  · refine ⟨-2, n, g, a, fd, sh, G, fun d h P hC hP => ?_, fun d h P hM hP => ?_⟩
    · exact e_X4_grow hC.ok (s_isDim (bz (fun c => absurd (hy.symm.trans c) (by decide)) (fun _ => hP h hC Fr.rf)))
    · exact e_X5_grow (mo_ok hM.1) (s_inD (bz (fun c => absurd (hy.symm.trans c) (by decide)) (fun _ => hP h hM Fr.rf)))
  · obtain ⟨dd, hd1, hd2, rfl⟩ := dim_nat hy
    obtain ⟨E, R, hE⟩ := FS.ex (Am_sy (a := a) G.2.1) n
    have hrk := rk_le E n
    by_cases ok : n ≠ 0 ∧ NBZ E n ∧ rk E n ≤ dd
    · obtain ⟨z0, z1, z2⟩ := ok
      obtain ⟨n', g', hn', hg', C, M⟩ := grow_ex (fd := fd) (sh := sh) ha.1 ha.2 hd1 hd2 (10 - n) n g (by omega) (by omega) G.2.1
      refine ⟨nI n', n', g', a, fd, sh, ⟨hn', hg', G.2.2⟩, fun d h P hC hP => ?_, fun d h P hM hP => ?_⟩
      · refine e_X4_grow hC.ok (s_isDim (bz (fun _ => ⟨5, g2 hC, 1, g0 hC, nI a, gan hC, s_takeC hn ha.1 G.2.1 hC hE (fun h' hC' hS hF => ⟨1, g0 hC', nI n, gsz hC', pk_eq n 0 (fun c => absurd c z0) (fun _ => ⟨5, g2 hC', s_noneBelow hn hS (fun _ => ⟨fun c => absurd c (by decide), fun _ => ⟨5, g2 hC', s_dimensions hn hS ⟨fun _ => ⟨1, g0 hC', nI n, gsz hC', C d h' P hC' (fun h2 hC2 hF2 => hP h2 hC2 ((hF.mono (fun _ => S15C)).tr hF2))⟩, fun c => absurd (nI_le z2 (by omega)) c⟩⟩⟩) (fun c => absurd z1 c)⟩)⟩)⟩) (fun c => absurd (hy.symm.trans c) (by decide))))
      · exact e_X5_grow (mo_ok hM.1) (s_inD (bz (fun _ => ⟨nI n, m0 hM, nI a, man hM, s_reckM hn ha.1 hM hE (fun h' f hM' q1 q2 hF => ⟨nI n, m0 hM', pk_eq n 0 (fun c => absurd c z0) (fun _ => ⟨nI n, m0 hM', s_liesAll hn hM'.1 q1 q2 hE.1 (fun _ => ⟨fun c => absurd c (by decide), fun _ => ⟨nI n, m0 hM', s_rankOf hn hM'.1 q1 q2 ⟨fun _ => M d h' P hM' (fun h2 hM2 hF2 => hP h2 hM2 ((hF.mono (fun _ => M48C)).tr hF2)), fun c => absurd (nI_le z2 (by omega)) c⟩⟩⟩) (fun c => absurd z1 c)⟩)⟩)⟩) (fun c => absurd (hy.symm.trans c) (by decide))))
    · refine ⟨-3, n, g, a, fd, sh, G, fun d h P hC hP => ?_, fun d h P hM hP => ?_⟩
      · refine e_X4_grow hC.ok (s_isDim (bz (fun _ => ⟨5, g2 hC, 1, g0 hC, nI a, gan hC, s_takeC hn ha.1 G.2.1 hC hE (fun h' hC' hS hF => ?_)⟩) (fun c => absurd (hy.symm.trans c) (by decide))))
        have bad := hP h' hC' (hF.mono (fun _ => S15C))
        refine ⟨1, g0 hC', nI n, gsz hC', pk_eq n 0 (fun _ => bad) (fun z0 => ⟨5, g2 hC', s_noneBelow hn hS (fun z1 => ⟨fun c => absurd c (by decide), fun _ => ⟨5, g2 hC', s_dimensions hn hS ⟨fun c => ?_, fun _ => bad⟩⟩⟩) (fun _ => ⟨fun _ => bad, fun c => absurd rfl c⟩)⟩)⟩
        exact absurd ⟨z0, z1, Nat.not_lt.mp (fun r => nI_ge r (by omega) c)⟩ ok
      · refine e_X5_grow (mo_ok hM.1) (s_inD (bz (fun _ => ⟨nI n, m0 hM, nI a, man hM, s_reckM hn ha.1 hM hE (fun h' f hM' q1 q2 hF => ?_)⟩) (fun c => absurd (hy.symm.trans c) (by decide))))
        have bad := hP h' hM' (hF.mono (fun _ => M48C))
        refine ⟨nI n, m0 hM', pk_eq n 0 (fun _ => bad) (fun z0 => ⟨nI n, m0 hM', s_liesAll hn hM'.1 q1 q2 hE.1 (fun z1 => ⟨fun c => absurd c (by decide), fun _ => ⟨nI n, m0 hM', s_rankOf hn hM'.1 q1 q2 ⟨fun c => ?_, fun _ => bad⟩⟩⟩) (fun _ => ⟨fun _ => bad, fun c => absurd rfl c⟩)⟩)⟩
        exact absurd ⟨z0, z1, Nat.not_lt.mp (fun r => nI_ge r (by omega) c)⟩ ok
