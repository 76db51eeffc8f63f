/-! ===== name, group ===== -/
theorem CX.nb {h h' : Hp} {n a : Nat} {g : Nat → Nat → Bool} {fd : Int32} {sh : Sh} (x : CX h n g a fd sh) (hN : NB0 h') (f : Fr N3 h h') : CX h' n g a fd sh := by
  obtain ⟨a1, a2, a3, a4, a5, a6⟩ := x
  have e : ∀ k, k < 20 ∨ 22 < k → h' k = h k := fun k hk => f k (by rintro (r | r | r) <;> omega)
  exact ⟨by rw [e 0 (by omega)]; exact a1, a2.same (e 1 (by omega)) (e 2 (by omega)), a3.eq (e 3 (by omega)) (e 4 (by omega)), a4.eq (fun k _ _ => e k (by omega)), hN, a6.eq (fun k _ _ => e k (by omega))⟩
theorem CX.other {h h' : Hp} {n a : Nat} {g : Nat → Nat → Bool} {fd : Int32} {sh : Sh} (x : CX h n g a fd sh) (hN : TB0 h' 3 4) (f : Fr (T2 3 4) h h') : CX h' n g a fd sh := by
  obtain ⟨a1, a2, a3, a4, a5, a6⟩ := x
  have e : ∀ k, k < 3 ∨ 4 < k → h' k = h k := fun k hk => f k (by rintro (r | r) <;> omega)
  exact ⟨by rw [e 0 (by omega)]; exact a1, a2.same (e 1 (by omega)) (e 2 (by omega)), hN, a4.eq (fun k _ _ => e k (by omega)), a5.eq (fun k _ _ => e k (by omega)), a6.eq (fun k _ _ => e k (by omega))⟩
theorem MX.ord {h h' : Hp} {n a : Nat} {g : Nat → Nat → Bool} {fd : Int32} {sh : Sh} {f' : Nat → Int32} (x : MX h n g a fd sh) (hf : h' 40 = iA 7 f') (f : Fr O1 h h') : MX h' n g a fd sh := by
  obtain ⟨a1, a2, ⟨b1, b2, b3, b4, b5, b6, b7, b8, b9⟩, a4⟩ := x
  have e : ∀ k, k ≠ 40 → h' k = h k := fun k hk => f k hk
  exact ⟨by rw [e 32 (by decide)]; exact a1, by rw [e 33 (by decide)]; exact a2, ⟨by rw [e 34 (by decide)]; exact b1, by rw [e 35 (by decide)]; exact b2, by rw [e 36 (by decide)]; exact b3, by rw [e 37 (by decide)]; exact b4, by rw [e 38 (by decide)]; exact b5, by rw [e 39 (by decide)]; exact b6, ⟨f', hf⟩, by rw [e 41 (by decide)]; exact b8, by rw [e 46 (by decide)]; exact b9⟩, a4.eq (fun k _ _ => e k (by omega))⟩
theorem g1 {h : Hp} {n a : Nat} {g : Nat → Nat → Bool} {fd : Int32} {sh : Sh} (x : CX h n g a fd sh) : gR h 4 0 1 = some 3 := gR_o (by decide) x.1 rfl
theorem g3 {h : Hp} {n a : Nat} {g : Nat → Nat → Bool} {fd : Int32} {sh : Sh} (x : CX h n g a fd sh) : gR h 4 0 3 = some 20 := gR_o (by decide) x.1 rfl
theorem N3C {k : Nat} (h : N3 k) : CC32 k := by rcases h with rfl | rfl | rfl <;> decide
theorem O1C {k : Nat} (h : O1 k) : MM32 k := by rw [show k = 40 from h]; decide
theorem op_name {n a : Nat} {g : Nat → Nat → Bool} {fd : Int32} {sh : Sh} (G : Gd n g a sh) : OpI M_X4_name M_X5_name [] n g a fd sh := by
  have hn := G.1
  by_cases q : n ≤ 7
  · obtain ⟨r, hr⟩ := isMin_exist n g q
    refine ⟨r, n, g, a, fd, sh, G, fun d h P hC hP => ?_, fun d h P hM hP => ?_⟩
    · refine e_X4_name hC.ok ⟨1, g0 hC, nI n, gsz hC, fun _ => ⟨20, g3 hC, 1, g0 hC, s_least q (by decide) (by decide) hC.2.1 hC.2.2.2.2.1 (fun r' h' m1 m2 m3 => ?_)⟩, fun c => absurd (nI_le q (by decide)) c⟩
      rw [m1.uniq hr]
      exact hP h' (hC.nb m2 m3) (m3.mono (fun _ => N3C))
    · obtain ⟨t, ht, hT⟩ := hM.2.1
      obtain ⟨f, hf⟩ := hM.2.2.1.2.2.2.2.2.2.1
      refine e_X5_name (mo_ok hM.1) ⟨nI n, m0 hM, fun _ => ⟨nI n, m0 hM, s_nameOf q hM.1 hf ht hT (fun r' h' f' m1 m2 m3 => ?_)⟩, fun c => absurd (nI_le q (by decide)) c⟩
      rw [m1.uniq hr]
      exact hP h' (hM.ord m2 m3) (m3.mono (fun _ => O1C))
  · have c : ¬ nI n ≤ 7 := nI_ge (show 7 < n by omega) (by omega)
    refine ⟨-3, n, g, a, fd, sh, G, fun d h P hC hP => ?_, fun d h P hM hP => ?_⟩
    · exact e_X4_name hC.ok ⟨1, g0 hC, nI n, gsz hC, fun r => absurd r c, fun _ => hP h hC Fr.rf⟩
    · exact e_X5_name (mo_ok hM.1) ⟨nI n, m0 hM, fun r => absurd r c, fun _ => hP h hM Fr.rf⟩
theorem Pc_eq {n : Nat} {g : Nat → Nat → Bool} {p q : Nat → Nat} {y z : Int32} (hn : n ≤ 7) (hy : Pc n g p 0 y) (hz : Pc n g q 0 z) : y = z ↔ ∀ i j, 0 < i → i < j → j < n → cc g p i j = cc g q i j := by
  have one : ∀ (r : Nat → Nat) (x : Int32), Pc n g r 0 x → ∀ i j, 0 < i → i < j → j < n → (bt x (bop i j) = true ↔ cc g r i j = true) := fun r x hx i j h1 h2 h3 => by
    have hb := bop_lt h1 h2 (by omega)
    rw [hx (bop i j) (by omega)]
    constructor
    · rintro ⟨i', j', a1, a2, a3, a4, a5⟩
      obtain ⟨e1, e2⟩ := bop_inj j' (by omega) j (by omega) i' a2 i h2 a1 h1 a4
      rw [← e1, ← e2]; exact a5
    · exact fun h => ⟨i, j, h1, h2, h3, rfl, h⟩
  constructor
  · intro e i j h1 h2 h3
    have e1 := one p y hy i j h1 h2 h3
    have e2 := one q z hz i j h1 h2 h3
    rw [e] at e1
    have := e1.symm.trans e2
    cases ha : cc g p i j <;> cases hb : cc g q i j <;> simp [ha, hb] at this ⊢
  · intro e
    refine b_ext (fun k hk => ?_)
    have : bt y k = true ↔ bt z k = true := by
      rw [hy k hk, hz k hk]
      constructor
      · rintro ⟨i, j, a1, a2, a3, a4, a5⟩; exact ⟨i, j, a1, a2, a3, a4, by rw [← e i j a1 a2 a3]; exact a5⟩
      · rintro ⟨i, j, a1, a2, a3, a4, a5⟩; exact ⟨i, j, a1, a2, a3, a4, by rw [e i j a1 a2 a3]; exact a5⟩
    cases ha : bt y k <;> cases hb : bt z k <;> simp [ha, hb] at this ⊢
theorem fnL_id {n : Nat} : ∀ i, i < n → fnL (List.range n) i = i := fun i hi => by unfold fnL; simp [hi]
theorem cc_id {n : Nat} {g : Nat → Nat → Bool} {i j : Nat} (h1 : i < j) (h2 : j < n) : cc g (fnL (List.range n)) i j = cc g (fun k => k) i j := by
  unfold cc; rw [fnL_id i (by omega), fnL_id j h2, fnL_id 0 (by omega)]
theorem s_groupM {d : Nat} {P : Int32 → Hp → Prop} {h : Hp} {n : Nat} {a fd : Int32} {f t : Nat → Int32} {g : Nat → Nat → Bool} (hn : n ≤ 7) (hm : h 32 = mo (nI n) a fd) (hf : h 40 = iA 7 f) (ht : h 33 = iA 100 t) (hT : TM t n g) (hP : ∀ h' f', h' 40 = iA 7 f' → Fr O1 h h' → P (nI ((pg n (List.range n)).countP (KpB n g))) h') : CI M_X5_group (d + 3) [.ref 32] h P := by
  obtain ⟨hpg, hchk⟩ := chk_ok n hn
  have hpid : Pm n (fnL (List.range n)) := ⟨fun i hi => by rw [fnL_id i hi]; exact hi, fun i j hi hj e => by rw [fnL_id i hi, fnL_id j hj] at e; exact e⟩
  have loop : ∀ (rest : List (List Nat)) (cur : List Nat) (code : Int32) (m : Nat) (h1 : Hp) (f1 : Nat → Int32), Pc n g (fnL (List.range n)) 0 code → chk n cur rest = true → h1 40 = iA 7 f1 → Ord f1 n cur → Fr O1 h h1 → m + rest.countP (KpB n g) = (pg n (List.range n)).countP (KpB n g) → L_X5_group_31 (d + 2) P h1 32 code (nI m) := by
    intro rest
    induction rest with
    | nil =>
      intro cur code m h1 f1 hcode hc hf1 hO hF hm2
      unfold chk at hc
      rw [Bool.and_eq_true] at hc
      have hm1 : h1 32 = mo (nI n) a fd := by rw [hF 32 (by decide)]; exact hm
      refine r_X5_group_31 ⟨nI n, gI_o (by decide) hm1 rfl, s_step hn hm1 hf1 hO (fun _ => ⟨fun _ => ?_, fun c => absurd rfl c⟩) (fun l' hl' => ?_)⟩
      · rw [show m = (pg n (List.range n)).countP (KpB n g) from hm2]
        exact hP h1 f1 hf1 hF
      · rw [hl'] at hc; simp at hc
    | cons c rest ih =>
      intro cur code m h1 f1 hcode hc hf1 hO hF hm2
      unfold chk at hc
      rw [Bool.and_eq_true, Bool.and_eq_true] at hc
      obtain ⟨-, hnx, hcr⟩ := hc
      have hnx := of_decide_eq_true hnx
      have hm1 : h1 32 = mo (nI n) a fd := by rw [hF 32 (by decide)]; exact hm
      refine r_X5_group_31 ⟨nI n, gI_o (by decide) hm1 rfl, s_step hn hm1 hf1 hO (fun r => by rw [hnx] at r; cases r) (fun l' hl' h2 f2 q1 q2 q3 => ⟨fun r => absurd r (by decide), fun _ => ?_⟩)⟩
      rw [hnx] at hl'
      cases hl'
      have hF2 := hF.tr q3
      have hm3 : h2 32 = mo (nI n) a fd := by rw [hF2 32 (by decide)]; exact hm
      have hok : okp n c = true := by
        cases rest with
        | nil => unfold chk at hcr; rw [Bool.and_eq_true] at hcr; exact hcr.1
        | cons _ _ => unfold chk at hcr; rw [Bool.and_eq_true] at hcr; exact hcr.1
      have hpm := (okp_pm hok).1
      refine ⟨nI n, gI_o (by decide) hm3 rfl, s_codeOf hn hm3 q1 (by rw [hF2 33 (by decide)]; exact ht) hT q2 hpm (fun z hz => ?_)⟩
      have hk : z = code ↔ Kp n g (fnL c) := (Pc_eq hn hz hcode).trans ⟨fun e i j h1 h2 h3 => (e i j h1 h2 h3).trans (cc_id h2 h3), fun e i j h1 h2 h3 => (e i j h1 h2 h3).trans (cc_id h2 h3).symm⟩
      rw [List.countP_cons] at hm2
      refine ⟨fun r => ?_, fun r => ?_⟩
      · rw [nI0]
        refine ih c code m h2 f2 hcode hcr q1 q2 hF2 ?_
        rw [KpB_f (fun r2 => r (hk.mpr r2))] at hm2
        simpa using hm2
      · rw [nI1]
        refine ih c code (m + 1) h2 f2 hcode hcr q1 q2 hF2 ?_
        rw [KpB_t (hk.mp r)] at hm2
        simp at hm2
        omega
  refine e_X5_group (mo_ok hm) ⟨nI n, gI_o (by decide) hm rfl, fun _ => ⟨nI n, gI_o (by decide) hm rfl, s_begin hn hm hf (fun h1 f1 q1 q2 q3 => ?_)⟩, fun c => absurd (nI_le hn (by decide)) c⟩
  have hm3 : h1 32 = mo (nI n) a fd := by rw [q3 32 (by decide)]; exact hm
  refine ⟨nI n, gI_o (by decide) hm3 rfl, s_codeOf hn hm3 q1 (by rw [q3 33 (by decide)]; exact ht) hT q2 hpid (fun z hz => ?_)⟩
  refine loop _ _ z 1 h1 f1 hz hchk q1 q2 q3 ?_
  conv => rhs; rw [hpg, List.countP_cons, KpB_t (fun i j _ h2 h3 => cc_id h2 h3)]
  simp; omega
theorem op_group {n a : Nat} {g : Nat → Nat → Bool} {fd : Int32} {sh : Sh} (G : Gd n g a sh) : OpI M_X4_group M_X5_group [] n g a fd sh := by
  have hn := G.1
  by_cases q : n ≤ 7
  · refine ⟨nI ((pg n (List.range n)).countP (KpB n g)), n, g, a, fd, sh, G, fun d h P hC hP => ?_, fun d h P hM hP => ?_⟩
    · exact e_X4_group hC.ok ⟨1, g0 hC, nI n, gsz hC, fun _ => ⟨20, g3 hC, 1, g0 hC, s_keeping q (by decide) (by decide) hC.2.1 hC.2.2.2.2.1 (fun h' m2 m3 => hP h' (hC.nb m2 m3) (m3.mono (fun _ => N3C)))⟩, fun c => absurd (nI_le q (by decide)) c⟩
    · obtain ⟨t, ht, hT⟩ := hM.2.1
      obtain ⟨f, hf⟩ := hM.2.2.1.2.2.2.2.2.2.1
      exact s_groupM q hM.1 hf ht hT (fun h' f' m2 m3 => hP h' (hM.ord m2 m3) (m3.mono (fun _ => O1C)))
  · have c : ¬ nI n ≤ 7 := nI_ge (show 7 < n by omega) (by omega)
    refine ⟨-3, n, g, a, fd, sh, G, fun d h P hC hP => ?_, fun d h P hM hP => ?_⟩
    · exact e_X4_group hC.ok ⟨1, g0 hC, nI n, gsz hC, fun r => absurd r c, fun _ => hP h hC Fr.rf⟩
    · exact e_X5_group (mo_ok hM.1) ⟨nI n, m0 hM, fun r => absurd r c, fun _ => hP h hM Fr.rf⟩
