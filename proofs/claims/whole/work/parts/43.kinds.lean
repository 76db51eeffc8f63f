/-! ===== kinds ===== -/
noncomputable def kd (n : Nat) (N : Nat) : Bool := @decide (isMin n (nam (bt (nI N)) n) (nI N)) (Classical.propDecidable _)
theorem kd_t {n N : Nat} {r : Int32} (h : isMin n (nam (bt (nI N)) n) r) : (r = nI N → kd n N = true) ∧ (¬ r = nI N → kd n N = false) := by
  unfold kd
  constructor
  · intro e; rw [e] at h; exact @decide_eq_true _ (Classical.propDecidable _) h
  · intro e; exact @decide_eq_false _ (Classical.propDecidable _) (fun q => e (h.uniq q))
def nk (m : Nat) : Nat := 2 ^ ((m - 1) * (m - 2) / 2)
theorem nk_ok : ∀ m, m < 6 → 1 ≤ m → ishl 1 (((nI m - 1) * (nI m - 2)) / 2) = nI (nk m) ∧ nk m ≤ 64 := by decide +kernel
theorem l_kindsX {d : Nat} {P : Int32 → Hp → Prop} {h0 : Hp} {n a m : Nat} {g : Nat → Nat → Bool} {fd : Int32} {sh : Sh} (hm : m ≤ 5) (hK : nk m ≤ 64) (hP : ∀ h', CX h' n g a fd sh → Fr CC32 h0 h' → P (nI (fb_ct (kd m) (nk m))) h') :
    ∀ (e N : Nat) (h : Hp), N + e = nk m → CX h n g a fd sh → Fr CC32 h0 h → L_X4_kinds_30 (d + 13) P h 0 (nI m) (nI (nk m)) (nI (fb_ct (kd m) N)) (nI N) := by
  intro e
  induction e with
  | zero =>
    intro N h hN hC hF
    refine r_X4_kinds_30 (pk_le (nk m) N (fun _ => ?_) (fun c => absurd c (by omega)))
    rw [show N = nk m by omega]; exact hP h hC hF
  | succ e ih =>
    intro N h hN hC hF
    refine r_X4_kinds_30 (pk_le (nk m) N (fun c => absurd c (by omega)) (fun _ => ⟨3, g1 hC, s_startNamed (by omega) hC.2.2.1 (fun h1 hT1 hF1 => ?_)⟩))
    have hC1 := hC.other hT1.t0 hF1
    have hF1' : Fr CC32 h0 h1 := hF.tr (hF1.mono (fun k q => by rcases q with rfl | rfl <;> decide))
    refine ⟨20, g3 hC1, 3, g1 hC1, s_least (by omega) (by decide) (by decide) hT1 hC1.2.2.2.2.1 (fun r h2 m1 m2 m3 => ?_)⟩
    have hC2 := hC1.nb m2 m3
    have hF2 : Fr CC32 h0 h2 := hF1'.tr (m3.mono (fun _ => N3C))
    have hk := kd_t m1
    have := ih (N + 1) h2 (by omega) hC2 hF2
    rw [fb_ct_succ] at this
    refine ⟨fun q => ?_, fun q => ?_⟩
    · rw [hk.2 q] at this; rw [nI1]; exact this
    · rw [hk.1 q] at this; rw [nI1, nI1]; exact this
theorem l_kinds42 {d : Nat} {P : Int32 → Hp → Prop} {h0 : Hp} {n a m : Nat} {g : Nat → Nat → Bool} {fd : Int32} {sh : Sh} {t0 s : Nat → Int32} (hn : n ≤ 10) (h1 : 1 ≤ m) (hm : m ≤ 5) (hM : MX h0 n g a fd sh) (hT0 : TM t0 n g) (hs : ∀ k, k < 100 → s k = t0 k) (hP : ∀ h', MX h' n g a fd sh → Fr MM32 h0 h' → P (nI (fb_ct (kd m) (nk m))) h') :
    ∀ (e N : Nat) (h : Hp) (t f : Nat → Int32), N + e = nk m → h 33 = iA 100 t → (∀ i, i < 10 → t (11 * i) = 0) → h 40 = iA 7 f → h 41 = iA 100 s → Fr M3 h0 h → L_X5_kinds_42 (d + 4) P h 32 (nI m) (nI (fb_ct (kd m) N)) (nI N) := by
  have hK := nk_ok m (by omega) h1
  intro e
  induction e with
  | zero =>
    intro N h t f hN ht hd hf h41 hF
    have back : ∀ (e k : Nat) (h : Hp) (t : Nat → Int32), k + e = 100 → h 33 = iA 100 t → (∀ j, j < k → t j = s j) → h 40 = iA 7 f → h 41 = iA 100 s → Fr M3 h0 h → L_X5_kinds_88 (d + 4) P h 32 (nI (fb_ct (kd m) (nk m))) (nI k) := by
      intro e
      induction e with
      | zero =>
        intro k h t hk ht he hf h41 hF
        have : k = 100 := by omega
        subst this
        refine r_X5_kinds_88 (pk_le 100 100 (fun _ => ?_) (fun c => absurd c (by omega)))
        refine hP h (hM.nm ht (hT0.upto hn (fun j hj => (he j hj).trans (hs j hj))) hf h41 hF) (hF.mono (fun _ => M3C))
      | succ e ih =>
        intro k h t hk ht he hf h41 hF
        have hm2 : h 32 = mo (nI n) (nI a) fd := by rw [hF 32 (by decide)]; exact hM.1
        refine r_X5_kinds_88 (pk_le 100 k (fun c => absurd c (by omega)) (fun _ => ⟨33, gR_o (by decide) hm2 rfl, 41, gR_o (by decide) hm2 rfl, _, lI_o (by decide) h41 (by omega), _, sI_o (by decide) ht (by omega), ?_⟩))
        rw [nI1]
        exact ih (k + 1) _ _ (by omega) hu_s (upd_lt he) (by rw [hu_n (by decide)]; exact hf) (by rw [hu_n (by decide)]; exact h41) (hF.tr (Fr.hu (S := M3) (Or.inl rfl)))
    refine r_X5_kinds_42 ?_
    rw [hK.1]
    refine pk_le (nk m) N (fun _ => ?_) (fun c => absurd c (by omega)) rfl rfl (by omega) (by omega)
    rw [show N = nk m by omega]
    exact back 100 0 h t (by omega) ht (fun j hj => absurd hj (by omega)) hf h41 hF
  | succ e ih =>
    intro N h t f hN ht hd hf h41 hF
    have hm2 : h 32 = mo (nI n) (nI a) fd := by rw [hF 32 (by decide)]; exact hM.1
    refine r_X5_kinds_42 ?_
    rw [hK.1]
    refine pk_le (nk m) N (fun c => absurd c (by omega)) (fun _ => s_spell (by omega) hm2 ht hd (fun h2 t2 q1 q2 q3 => ?_)) rfl rfl (by omega) (by omega)
    have hm3 : h2 32 = mo (nI n) (nI a) fd := by rw [q3 32 (by decide)]; exact hm2
    refine s_nameOf (by omega) hm3 (by rw [q3 40 (by decide)]; exact hf) q1 q2 (fun r h3 f3 m1 m2 m3 => ?_)
    have hk := kd_t m1
    have := ih (N + 1) h3 t2 f3 (by omega) (by rw [m3 33 (by decide)]; exact q1) q2.1 m2 (by rw [m3 41 (by decide), q3 41 (by decide)]; exact h41) (hF.tr ((q3.mono (fun k r => Or.inl r)).tr (m3.mono (fun k r => Or.inr (Or.inl r)))))
    rw [fb_ct_succ] at this
    refine ⟨fun q => ?_, fun q => ?_⟩
    · rw [hk.2 q] at this; rw [nI0, nI1]; exact this
    · rw [hk.1 q] at this; rw [nI1, nI1]; exact this
theorem s_kindsM {d : Nat} {P : Int32 → Hp → Prop} {h : Hp} {n a m : Nat} {g : Nat → Nat → Bool} {fd : Int32} {sh : Sh} (hn : n ≤ 10) (h1 : 1 ≤ m) (hm : m ≤ 5) (hM : MX h n g a fd sh) (hP : ∀ h', MX h' n g a fd sh → Fr MM32 h h' → P (nI (fb_ct (kd m) (nk m))) h') : CI M_X5_kinds (d + 5) [.ref 32, .int (nI m)] h P := by
  obtain ⟨t, ht, hT⟩ := hM.2.1
  obtain ⟨f, hf⟩ := hM.2.2.1.2.2.2.2.2.2.1
  obtain ⟨s0, hs0⟩ := hM.2.2.1.2.2.2.2.2.2.2.1
  refine e_X5_kinds (mo_ok hM.1) (s_in (bz (fun _ => ?_) (fun c => ?_)))
  · have loop : ∀ (e k : Nat) (h2 : Hp) (s : Nat → Int32), k + e = 100 → h2 41 = iA 100 s → (∀ j, j < k → s j = t j) → Fr (fun k => k = 41) h h2 → L_X5_kinds_14 (d + 4) P h2 32 (nI m) (nI k) := by
      intro e
      induction e with
      | zero =>
        intro k h2 s hk hs he hF
        have hk : k = 100 := by omega
        subst hk
        refine r_X5_kinds_14 (pk_le 100 100 (fun _ => ?_) (fun c => absurd c (by omega)))
        exact l_kinds42 (t0 := t) hn h1 hm hM hT he hP (nk m) 0 h2 t f (by omega) (by rw [hF 33 (by decide)]; exact ht) hT.1 (by rw [hF 40 (by decide)]; exact hf) hs (hF.mono (fun k r => Or.inr (Or.inr r)))
      | succ e ih =>
        intro k h2 s hk hs he hF
        have hm2 : h2 32 = mo (nI n) (nI a) fd := by rw [hF 32 (by decide)]; exact hM.1
        refine r_X5_kinds_14 (pk_le 100 k (fun c => absurd c (by omega)) (fun _ => ⟨41, gR_o (by decide) hm2 rfl, 33, gR_o (by decide) hm2 rfl, _, lI_o (by decide) (by rw [hF 33 (by decide)]; exact ht) (by omega), _, sI_o (by decide) hs (by omega), ?_⟩))
        rw [nI1]
        exact ih (k + 1) _ _ (by omega) hu_s (upd_lt he) (hF.tr (Fr.hu (S := fun k => k = 41) rfl))
    exact loop 100 0 h s0 (by omega) hs0 (fun j hj => absurd hj (by omega)) Fr.rf
  · exact absurd (⟨nI_le (a := 1) (b := m) h1 (by omega), nI_le (a := m) (b := 5) hm (by omega)⟩ : (1 : Int32) ≤ nI m ∧ nI m ≤ 5) (of_decide_eq_false c)
theorem op_kinds {n a : Nat} {g : Nat → Nat → Bool} {fd : Int32} {sh : Sh} (G : Gd n g a sh) (x : Int32) : OpI M_X4_kinds M_X5_kinds [.int x] n g a fd sh := by
  have hn := G.1
  by_cases q : (1 : Int32) ≤ x ∧ x ≤ 5
  · obtain ⟨m, h1, h5, rfl⟩ : ∃ m, 1 ≤ m ∧ m ≤ 5 ∧ x = nI m := by
      obtain ⟨j, hj, e⟩ := nI_of2 (x := x) (M := 5) (n := 5) (by decide) (Int32.not_lt.mpr (Int32.le_trans (by decide) q.1)) q.2
      refine ⟨j, ?_, hj, e⟩
      rcases Nat.eq_zero_or_pos j with r | r
      · rw [e, r] at q; exact absurd q.1 (by decide)
      · exact r
    have hK := nk_ok m (by omega) h1
    refine ⟨nI (fb_ct (kd m) (nk m)), n, g, a, fd, sh, G, fun d h P hC hP => ?_, fun d h P hM hP => ?_⟩
    · refine e_X4_kinds hC.ok ⟨fun c => absurd q.1 (Int32.not_le.mpr c), fun _ => ⟨fun _ => ?_, fun c => absurd q.2 c⟩⟩
      rw [hK.1]
      exact l_kindsX (d := d + 6) h5 hK.2 hP (nk m) 0 h (by omega) hC Fr.rf
    · exact s_kindsM hn h1 h5 hM hP
  · refine ⟨-2, n, g, a, fd, sh, G, fun d h P hC hP => ?_, fun d h P hM hP => ?_⟩
    · exact e_X4_kinds hC.ok ⟨fun _ => hP h hC Fr.rf, fun c => ⟨fun c2 => absurd ⟨Int32.not_lt.mp c, c2⟩ q, fun _ => hP h hC Fr.rf⟩⟩
    · exact e_X5_kinds (mo_ok hM.1) (s_in (bz (fun c => absurd (of_decide_eq_true c) q) (fun _ => hP h hM Fr.rf)))
