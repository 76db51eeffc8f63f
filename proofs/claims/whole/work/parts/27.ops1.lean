theorem s_isL {d : Nat} {P : Int32 → Hp → Prop} {h : Hp} {n a : Nat} {g : Nat → Nat → Bool} {fd x : Int32} {sh : Sh} (hn : n ≤ 10) (hM : MX h n g a fd sh) (hP : P (b2i (isL n x)) h) : CI M_X5_isLine (d + 2) [.ref 32, .int x] h P := s_isLineM hn hM.1 hP
theorem s_hasL {d : Nat} {P : Int32 → Hp → Prop} {h : Hp} {n a : Nat} {g : Nat → Nat → Bool} {fd x : Int32} {sh : Sh} (hC : CX h n g a fd sh) (hP : P (b2i (isL n x)) h) : CI M_X3_hasLine (d + 1) [.ref 1, .int x] h P := s_hasLine hC.2.1 hP
theorem op_at {n a : Nat} {g : Nat → Nat → Bool} {fd : Int32} {sh : Sh} (G : Gd n g a sh) (x y : Int32) : OpI M_X4_at M_X5_at [.int x, .int y] n g a fd sh := by
  have hn := G.1
  cases hx : isL n x
  · refine ⟨-2, n, g, a, fd, sh, G, fun d h P hC hP => ?_, fun d h P hM hP => ?_⟩
    · exact e_X4_at hC.ok ⟨1, g0 hC, s_hasL hC (zb (fun _ => hP h hC Fr.rf) (fun c => absurd (hx.symm.trans c) (by decide)))⟩
    · exact e_X5_at (mo_ok hM.1) (s_isL hn hM (zb (fun _ => hP h hM Fr.rf) (fun c => absurd (hx.symm.trans c) (by decide))))
  · cases hy : isL n y
    · refine ⟨-2, n, g, a, fd, sh, G, fun d h P hC hP => ?_, fun d h P hM hP => ?_⟩
      · exact e_X4_at hC.ok ⟨1, g0 hC, s_hasL hC (zb (fun c => absurd (hx.symm.trans c) (by decide)) (fun _ => ⟨1, g0 hC, s_hasL hC (bz (fun c => absurd (hy.symm.trans c) (by decide)) (fun _ => hP h hC Fr.rf))⟩))⟩
      · exact e_X5_at (mo_ok hM.1) (s_isL hn hM (zb (fun c => absurd (hx.symm.trans c) (by decide)) (fun _ => s_isL hn hM (zb (fun _ => hP h hM Fr.rf) (fun c => absurd (hy.symm.trans c) (by decide))))))
    · obtain ⟨i, hi, rfl⟩ := isL_t hn hx
      obtain ⟨j, hj, rfl⟩ := isL_t hn hy
      refine ⟨if i = j then 0 else pm (g i j), n, g, a, fd, sh, G, fun d h P hC hP => ?_, fun d h P hM hP => ?_⟩
      · exact e_X4_at hC.ok ⟨1, g0 hC, s_hasL hC (zb (fun c => absurd (hx.symm.trans c) (by decide)) (fun _ => ⟨1, g0 hC, s_hasL hC (bz (fun _ => ⟨1, g0 hC, s_entry hC.2.1 (by omega) (by omega) (hP h hC Fr.rf)⟩) (fun c => absurd (hy.symm.trans c) (by decide)))⟩))⟩
      · obtain ⟨t, ht, hT⟩ := hM.2.1
        refine e_X5_at (mo_ok hM.1) (s_isL hn hM (zb (fun c => absurd (hx.symm.trans c) (by decide)) (fun _ => s_isL hn hM (zb (fun c => absurd (hy.symm.trans c) (by decide)) (fun _ => ?_)))))
        rw [l10]
        refine ⟨33, m1 hM, _, lI_o (by decide) ht (by omega), ?_⟩
        have e : t (10 * i + j) = if i = j then 0 else pm (g i j) := by
          by_cases q : i = j
          · subst q
            rw [if_pos rfl, show 10 * i + i = 11 * i by omega]
            exact hT.1 i (by omega)
          · rw [if_neg q]; exact hT.2 i j hi hj q
        rw [e]
        exact hP h hM Fr.rf
theorem op_sign {n a : Nat} {g : Nat → Nat → Bool} {fd : Int32} {sh : Sh} (G : Gd n g a sh) (x y v : Int32) : OpI M_X4_sign M_X5_sign [.int x, .int y, .int v] n g a fd sh := by
  have hn := G.1
  cases hb : (isL n x && isL n y && !decide (x = y))
  · refine ⟨-2, n, g, a, fd, sh, G, fun d h P hC hP => ?_, fun d h P hM hP => ?_⟩
    · exact e_X4_sign hC.ok (s_areTwo hC (zb (fun _ => hP h hC Fr.rf) (fun c => absurd (hb.symm.trans c) (by decide))))
    · refine e_X5_sign (mo_ok hM.1) (s_isL hn hM (zb (fun _ => hP h hM Fr.rf) (fun c => s_isL hn hM (zb (fun _ => hP h hM Fr.rf) (fun c2 => ⟨fun _ => hP h hM Fr.rf, fun c3 => ?_⟩)))))
      rw [c, c2] at hb
      simp [c3] at hb
  · simp only [Bool.and_eq_true, Bool.not_eq_true', decide_eq_false_iff_not] at hb
    obtain ⟨⟨hx, hy⟩, hxy⟩ := hb
    have hb2 : (isL n x && isL n y && !decide (x = y)) = true := by simp [hx, hy, hxy]
    obtain ⟨i, hi, rfl⟩ := isL_t hn hx
    obtain ⟨j, hj, rfl⟩ := isL_t hn hy
    have hij : i ≠ j := fun q => hxy (by rw [q])
    by_cases hv : v = 1 ∨ v = -1
    · have hv2 : v = pm (decide (v = -1)) := by rcases hv with rfl | rfl <;> decide
      refine ⟨pm (g i j), n, stg g i j (decide (v = -1)), a, fd, sh, ⟨hn, wf_stg G.2.1 hi hj hij, G.2.2⟩, fun d h P hC hP => ?_, fun d h P hM hP => ?_⟩
      · have fin : ∀ (w : Bool) (wv : Int32), wv = b2i w → w = decide (v = -1) → CV M_X3_setMinus (d + 19) [.ref 1, .int (nI i), .int (nI j), .int wv] h (fun h7 => P (if i = j then 0 else pm (g i j)) h7) := fun w wv e1 e2 => by
          subst e2
          rw [if_neg hij]
          exact s_setMinus e1 hC.2.1 (by omega) (by omega) hij (G.2.1.1 i j) (fun h' hT hF => hP h' (hC.tab hT hF) (hF.mono (fun _ => T2C)))
        refine e_X4_sign hC.ok (s_areTwo hC (zb (fun c => absurd (hb2.symm.trans c) (by decide)) (fun _ => ⟨fun c => ?_, fun c => ⟨fun c2 => ?_, fun c2 => ?_⟩⟩)))
        · refine ⟨1, g0 hC, s_entry hC.2.1 (by omega) (by omega) ⟨1, g0 hC, fun c3 => ?_, fun c3 => ?_⟩⟩
          · exact fin false 0 rfl (by simp [c3])
          · rw [c] at c3; exact absurd c3 (by decide)
        · refine ⟨1, g0 hC, s_entry hC.2.1 (by omega) (by omega) ⟨1, g0 hC, fun c3 => absurd c2 c3, fun c3 => ?_⟩⟩
          exact fin true 1 rfl (by simp [c2])
        · exact absurd hv (by rintro (r | r); exact c r; exact c2 r)
      · obtain ⟨t, ht, hT⟩ := hM.2.1
        have fin : ∃ q5, gR h 5 32 1 = some q5 ∧ ∃ x6, lI h q5 (10 * nI i + nI j) = some x6 ∧ CV M_X5_set (d + 19) [.ref 32, .int (nI i), .int (nI j), .int v] h (fun h7 => P x6 h7) := by
          rw [l10]
          refine ⟨33, m1 hM, _, lI_o (by decide) ht (by omega), s_setM hM.1 ht (by omega) (by omega) (fun h' ht' hF => ?_)⟩
          rw [hT.2 i j hi hj hij]
          have hF2 : Fr M2 h h' := hF.mono M12
          exact hP h' (hM.tab (by rw [hF 32 (by decide)]; exact hM.1) ht' (TM.set hv2 hn hi hj hij hT) hF2) (hF2.mono (fun _ => M2C))
        refine e_X5_sign (mo_ok hM.1) (s_isL hn hM (zb (fun c => absurd (hx.symm.trans c) (by decide)) (fun c => s_isL hn hM (zb (fun c => absurd (hy.symm.trans c) (by decide)) (fun c2 => ⟨fun c3 => absurd c3 hxy, fun _ => ⟨fun _ => fin, fun c4 => ⟨fun _ => fin, fun c5 => ?_⟩⟩⟩)))))
        exact absurd hv (by rintro (r | r); exact c4 r; exact c5 r)
    · refine ⟨-2, n, g, a, fd, sh, G, fun d h P hC hP => ?_, fun d h P hM hP => ?_⟩
      · exact e_X4_sign hC.ok (s_areTwo hC (zb (fun c => absurd (hb2.symm.trans c) (by decide)) (fun _ => ⟨fun c => absurd (Or.inl c) hv, fun c => ⟨fun c2 => absurd (Or.inr c2) hv, fun c2 => hP h hC Fr.rf⟩⟩)))
      · exact e_X5_sign (mo_ok hM.1) (s_isL hn hM (zb (fun c => absurd (hx.symm.trans c) (by decide)) (fun c => s_isL hn hM (zb (fun c => absurd (hy.symm.trans c) (by decide)) (fun c2 => ⟨fun c3 => absurd c3 hxy, fun _ => ⟨fun c4 => absurd (Or.inl c4) hv, fun c4 => ⟨fun c5 => absurd (Or.inr c5) hv, fun c5 => hP h hM Fr.rf⟩⟩⟩)))))
theorem tct_eq {n i : Nat} {g : Nat → Nat → Bool} (hn : n ≤ 10) (hi : i < n) (hg : WF n g) : fb_ct (trn g n i i) 32 = tct g i n := by
  have e : ∀ k, k < 32 → trn g n i i k = (decide (k < n) && (!decide (k = i) && !g i k)) := by
    intro k _
    unfold trn
    by_cases q : k < n ∧ k ≠ i
    · rw [if_pos (Or.inl ⟨rfl, q⟩)]; simp [q.1, q.2]
    · rw [if_neg (by rintro (⟨_, r⟩ | ⟨r, _, r2⟩); exact q r; exact r2 rfl)]
      by_cases q1 : k < n
      · have : k = i := Classical.byContradiction fun r => q ⟨q1, r⟩
        subst this
        simp [hg.2.1]
      · rw [hg.r (by omega)]; simp [q1]
  rw [fb_ct_cong e, ct_mask (by omega)]
  rfl
theorem op_turn {n a : Nat} {g : Nat → Nat → Bool} {fd : Int32} {sh : Sh} (G : Gd n g a sh) (x : Int32) : OpI M_X4_turn M_X5_turn [.int x] n g a fd sh := by
  have hn := G.1
  cases hx : isL n x
  · refine ⟨-2, n, g, a, fd, sh, G, fun d h P hC hP => ?_, fun d h P hM hP => ?_⟩
    · exact e_X4_turn hC.ok ⟨1, g0 hC, s_hasL hC (bz (fun c => absurd (hx.symm.trans c) (by decide)) (fun _ => hP h hC Fr.rf))⟩
    · exact e_X5_turn (mo_ok hM.1) (s_isL hn hM (bz (fun c => absurd (hx.symm.trans c) (by decide)) (fun _ => hP h hM Fr.rf)))
  · obtain ⟨i, hi, rfl⟩ := isL_t hn hx
    refine ⟨nI (tct g i n), n, trn g n i, a, fd, sh, ⟨hn, wf_trn G.2.1 hi, G.2.2⟩, fun d h P hC hP => ?_, fun d h P hM hP => ?_⟩
    · refine e_X4_turn hC.ok ⟨1, g0 hC, s_hasL hC (bz (fun _ => ⟨1, g0 hC, s_turnLine hn hi G.2.1 hC.2.1 (fun h' hT hF => ?_)⟩) (fun c => absurd (hx.symm.trans c) (by decide)))⟩
      have hC' := hC.tab hT hF
      obtain ⟨ht, ha2, e1, f, e2, e3⟩ := hT
      refine ⟨1, g0 hC', 2, gR_o ht e1 rfl, f i, lI_o ha2 e2 (by omega), s_bitCount ?_⟩
      rw [fb_ct_cong (fun k hk => e3 i (by omega) k hk), tct_eq hn hi G.2.1]
      exact hP h' hC' (hF.mono (fun _ => T2C))
    · obtain ⟨t, ht, hT⟩ := hM.2.1
      refine e_X5_turn (mo_ok hM.1) (s_isL hn hM (bz (fun _ => ?_) (fun c => absurd (hx.symm.trans c) (by decide))))
      refine l_turnM hn hi G.2.1 h (fun h' t' e1 e2 e3 => ?_) n 0 h t (by omega) hM.1 ht (hT.eq (fun x y _ _ _ => ?_)) Fr.rf
      · have hF2 : Fr M2 h h' := e3.mono M12
        exact hP h' (hM.tab (by rw [e3 32 (by decide)]; exact hM.1) e1 e2 hF2) (hF2.mono (fun _ => M2C))
      · unfold trn; simp
theorem op_change {n a : Nat} {g : Nat → Nat → Bool} {fd : Int32} {sh : Sh} (G : Gd n g a sh) (x y : Int32) : OpI M_X4_change M_X5_change [.int x, .int y] n g a fd sh := by
  have hn := G.1
  cases hx : isL n x
  · refine ⟨-2, n, g, a, fd, sh, G, fun d h P hC hP => ?_, fun d h P hM hP => ?_⟩
    · exact e_X4_change hC.ok ⟨1, g0 hC, s_hasL hC (zb (fun _ => hP h hC Fr.rf) (fun c => absurd (hx.symm.trans c) (by decide)))⟩
    · exact e_X5_change (mo_ok hM.1) (s_isL hn hM (zb (fun _ => hP h hM Fr.rf) (fun c => absurd (hx.symm.trans c) (by decide))))
  · cases hy : isL n y
    · refine ⟨-2, n, g, a, fd, sh, G, fun d h P hC hP => ?_, fun d h P hM hP => ?_⟩
      · exact e_X4_change hC.ok ⟨1, g0 hC, s_hasL hC (zb (fun c => absurd (hx.symm.trans c) (by decide)) (fun _ => ⟨1, g0 hC, s_hasL hC (bz (fun c => absurd (hy.symm.trans c) (by decide)) (fun _ => hP h hC Fr.rf))⟩))⟩
      · exact e_X5_change (mo_ok hM.1) (s_isL hn hM (zb (fun c => absurd (hx.symm.trans c) (by decide)) (fun _ => s_isL hn hM (bz (fun c => absurd (hy.symm.trans c) (by decide)) (fun _ => hP h hM Fr.rf)))))
    · obtain ⟨i, hi, rfl⟩ := isL_t hn hx
      obtain ⟨j, hj, rfl⟩ := isL_t hn hy
      refine ⟨1, n, fun x y => g (swp i j x) (swp i j y), a, fd, sh, ⟨hn, wf_swp G.2.1 hi hj, G.2.2⟩, fun d h P hC hP => ?_, fun d h P hM hP => ?_⟩
      · exact e_X4_change hC.ok ⟨1, g0 hC, s_hasL hC (zb (fun c => absurd (hx.symm.trans c) (by decide)) (fun _ => ⟨1, g0 hC, s_hasL hC (bz (fun _ => ⟨1, g0 hC, s_swapLines hn hi hj G.2.1 hC.2.1 (fun h' hT hF => hP h' (hC.tab hT hF) (hF.mono (fun _ => T2C)))⟩) (fun c => absurd (hy.symm.trans c) (by decide)))⟩))⟩
      · obtain ⟨t, ht, hT⟩ := hM.2.1
        refine e_X5_change (mo_ok hM.1) (s_isL hn hM (zb (fun c => absurd (hx.symm.trans c) (by decide)) (fun _ => s_isL hn hM (bz (fun _ => ?_) (fun c => absurd (hy.symm.trans c) (by decide))))))
        refine l_changeM hn hi hj G.2.1 h (fun h' t' e1 e2 e3 => ?_) n 0 h t (by omega) hM.1 ht (hT.eq (fun x y _ _ _ => ?_)) Fr.rf
        · have hF2 : Fr M2 h h' := e3.mono M12
          exact hP h' (hM.tab (by rw [e3 32 (by decide)]; exact hM.1) e1 e2 hF2) (hF2.mono (fun _ => M2C))
        · unfold cgk; simp
theorem s_oddX {d : Nat} {P : Int32 → Hp → Prop} {h : Hp} {n a : Nat} {g : Nat → Nat → Bool} {fd : Int32} {sh : Sh} (hn : n ≤ 10) (hC : CX h n g a fd sh) (hP : P (nI (osum n g n / 3)) h) : CI M_X4_odd (d + 4) [.ref 0] h P := e_X4_odd hC.ok ⟨1, g0 hC, s_oddTriples hn hC.2.1 hP⟩
theorem op_odd {n a : Nat} {g : Nat → Nat → Bool} {fd : Int32} {sh : Sh} (G : Gd n g a sh) : OpI M_X4_odd M_X5_odd [] n g a fd sh := by
  refine ⟨nI (osum n g n / 3), n, g, a, fd, sh, G, fun d h P hC hP => s_oddX G.1 hC (hP h hC Fr.rf), fun d h P hM hP => ?_⟩
  obtain ⟨t, ht, hT⟩ := hM.2.1
  exact s_oddM G.1 hM.1 ht hT (hP h hM Fr.rf)
theorem op_together {n a : Nat} {g : Nat → Nat → Bool} {fd : Int32} {sh : Sh} (G : Gd n g a sh) (x y : Int32) : OpI M_X4_together M_X5_together [.int x, .int y] n g a fd sh := by
  have hn := G.1
  cases hb : (isL n x && isL n y && !decide (x = y))
  · refine ⟨-2, n, g, a, fd, sh, G, fun d h P hC hP => ?_, fun d h P hM hP => ?_⟩
    · exact e_X4_together hC.ok (s_areTwo hC (bz (fun c => absurd (hb.symm.trans c) (by decide)) (fun _ => hP h hC Fr.rf)))
    · refine e_X5_together (mo_ok hM.1) (s_isL hn hM (zb (fun _ => hP h hM Fr.rf) (fun c => s_isL hn hM (zb (fun _ => hP h hM Fr.rf) (fun c2 => ⟨fun _ => hP h hM Fr.rf, fun c3 => ?_⟩)))))
      rw [c, c2] at hb
      simp [c3] at hb
  · simp only [Bool.and_eq_true, Bool.not_eq_true', decide_eq_false_iff_not] at hb
    obtain ⟨⟨hx, hy⟩, hxy⟩ := hb
    have hb2 : (isL n x && isL n y && !decide (x = y)) = true := by simp [hx, hy, hxy]
    obtain ⟨i, hi, rfl⟩ := isL_t hn hx
    obtain ⟨j, hj, rfl⟩ := isL_t hn hy
    have hij : i ≠ j := fun q => hxy (by rw [q])
    refine ⟨nI (tog n g i j), n, g, a, fd, sh, G, fun d h P hC hP => ?_, fun d h P hM hP => ?_⟩
    · exact e_X4_together hC.ok (s_areTwo hC (bz (fun _ => ⟨1, g0 hC, s_oddTriplesWith hn (by omega) (by omega) hC.2.1 (hP h hC Fr.rf)⟩) (fun c => absurd (hb2.symm.trans c) (by decide))))
    · obtain ⟨t, ht, hT⟩ := hM.2.1
      exact e_X5_together (mo_ok hM.1) (s_isL hn hM (zb (fun c => absurd (hx.symm.trans c) (by decide)) (fun c => s_isL hn hM (zb (fun c => absurd (hy.symm.trans c) (by decide)) (fun c2 => ⟨fun c3 => absurd c3 hxy, fun _ => s_togetherM hn hi hj hij hM.1 ht hT (hP h hM Fr.rf)⟩)))))
