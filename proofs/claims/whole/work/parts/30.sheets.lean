/-! ===== sheets: common ===== -/
theorem isLN {n : Nat} (hn : n < 2 ^ 30) {x : Int32} (h : isL n x = true) : ∃ i, i < n ∧ x = nI i := by
  unfold isL at h
  have h := of_decide_eq_true h
  rcases pk_ix x (n := n) (by omega) with q | q | q
  · exact absurd h.1 (Int32.not_le.mpr q)
  · exact absurd h.2 (Int32.not_lt.mpr q)
  · exact q
theorem isL_f1 {n : Nat} {x : Int32} (h : x < 0) : isL n x = false := by
  unfold isL; simp [Int32.not_le.mpr h]
theorem isL_f2 {n : Nat} {x : Int32} (h : nI n ≤ x) : isL n x = false := by
  unfold isL; simp [Int32.not_lt.mpr h]
theorem isL_tt {n : Nat} {x : Int32} (h1 : ¬ x < 0) (h2 : ¬ nI n ≤ x) : isL n x = true := by
  unfold isL; simp [Int32.not_lt.mp h1, Int32.not_le.mp h2]
theorem lt_succ {k : Nat} (hk : k + 1 < 2 ^ 31) {x : Int32} : nI k < x ↔ nI (k + 1) ≤ x := by
  rw [Int32.lt_iff_toInt_lt, Int32.le_iff_toInt_le, nI_toInt (by omega), nI_toInt hk]
  omega
theorem s_isSheetX {d : Nat} {P : Int32 → Hp → Prop} {h : Hp} {x : Int32} (hP : P (b2i (isL 4 x)) h) : CI M_X4_isSheet (d + 1) [.int x] h P := by
  refine e_X4_isSheet ⟨fun c => ?_, fun c => ⟨fun c2 => ?_, fun c2 => ?_⟩⟩
  · rw [isL_f1 c] at hP; exact hP
  · rw [isL_f2 c2] at hP; exact hP
  · rw [isL_tt c c2] at hP; exact hP
theorem s_isFormX {d : Nat} {P : Int32 → Hp → Prop} {h : Hp} {x : Int32} (hP : P (b2i (isL 3 x)) h) : CI M_X4_isForm (d + 1) [.int x] h P := by
  refine e_X4_isForm ⟨fun c => ?_, fun c => ⟨fun c2 => ?_, fun c2 => ?_⟩⟩
  · rw [isL_f1 c] at hP; exact hP
  · rw [isL_f2 ((lt_succ (k := 2) (by decide)).mp c2)] at hP; exact hP
  · rw [isL_tt c (fun q => c2 ((lt_succ (k := 2) (by decide)).mpr q))] at hP; exact hP
theorem s_isLcX {d : Nat} {P : Int32 → Hp → Prop} {h : Hp} {x : Int32} (hP : P (b2i (isL 11 x)) h) : CI M_X4_isLineCount (d + 1) [.int x] h P := by
  refine e_X4_isLineCount ⟨fun c => ?_, fun c => ⟨fun c2 => ?_, fun c2 => ?_⟩⟩
  · rw [isL_f1 c] at hP; exact hP
  · rw [isL_f2 ((lt_succ (k := 10) (by decide)).mp c2)] at hP; exact hP
  · rw [isL_tt c (fun q => c2 ((lt_succ (k := 10) (by decide)).mpr q))] at hP; exact hP
theorem s_inL {d : Nat} {P : Int32 → Hp → Prop} {h : Hp} {x hi : Int32} {n : Nat} (hn : n < 2 ^ 30) (hh : nI n - 1 = hi) (hP : P (b2i (isL n x)) h) : CI M_X5_in (d + 1) [.int x, .int 0, .int hi] h P := by
  subst hh
  refine s_in ?_
  rw [in_nI hn]; exact hP
theorem s_isSheetM {d : Nat} {P : Int32 → Hp → Prop} {h : Hp} {x : Int32} (hP : P (b2i (isL 4 x)) h) : CI M_X5_isSheet (d + 2) [.int x] h P :=
  e_X5_isSheet (s_inL (n := 4) (by decide) (by decide) ⟨by unfold b2i; split <;> simp, hP⟩)
theorem s_finding {d : Nat} {P : Int32 → Hp → Prop} {h : Hp} {n a : Nat} {g : Nat → Nat → Bool} {fd x : Int32} {sh : Sh} (hC : CX h n g a fd sh) (hP : ∀ h', CX h' n g a x sh → Fr CC32 h h' → P (-10 - x) h') : CI M_X4_findingOf (d + 1) [.ref 0, .int x] h P :=
  e_X4_findingOf hC.ok ⟨_, sF_o (by decide) hC.1 (by simp), hP _ hC.set0 (Fr.hu (S := CC32) (by decide))⟩
theorem s_meets {d : Nat} {P : Int32 → Hp → Prop} {h : Hp} {n a : Nat} {g : Nat → Nat → Bool} {fd x : Int32} {sh : Sh} (hM : MX h n g a fd sh) (hP : ∀ h', MX h' n g a x sh → Fr MM32 h h' → P (-10 - x) h') : CI M_X5_meets (d + 1) [.ref 32, .int x] h P :=
  e_X5_meets (mo_ok hM.1) ⟨_, sF_o (by decide) hM.1 (by simp), hP _ hM.set32 (Fr.hu (S := MM32) (by decide))⟩
theorem g4 {h : Hp} {n a : Nat} {g : Nat → Nat → Bool} {fd : Int32} {sh : Sh} (x : CX h n g a fd sh) : gR h 4 0 4 = some 23 := gR_o (by decide) x.1 rfl
theorem gq {h : Hp} {n a s : Nat} {g : Nat → Nat → Bool} {fd : Int32} {sh : Sh} (x : CX h n g a fd sh) (hs : s < 4) : lQ 3 h 23 (nI s) = some (24 + 2 * s) := lQ_o (by decide) x.2.2.2.2.2.1 hs (by simp [hs])
def shu (sh : Sh) (s : Nat) (o : Option (Nat × Nat × (Nat → Int32))) : Sh := fun k => if k = s then o else sh k
abbrev S2 (s : Nat) : Nat → Prop := fun k => k = 24 + 2 * s ∨ k = 25 + 2 * s
theorem CX.sheet {h h' : Hp} {n a s : Nat} {g : Nat → Nat → Bool} {fd : Int32} {sh : Sh} {o : Option (Nat × Nat × (Nat → Int32))} (hs : s < 4) (x : CX h n g a fd sh) (f : Fr (S2 s) h h') (y : SHs h' s o) : CX h' n g a fd (shu sh s o) := by
  obtain ⟨a1, a2, a3, a4, a5, a6⟩ := x
  have e : ∀ k, k ≠ 24 + 2 * s → k ≠ 25 + 2 * s → h' k = h k := fun k h1 h2 => f k (by rintro (r | r); exact h1 r; exact h2 r)
  refine ⟨by rw [e 0 (by omega) (by omega)]; exact a1, a2.same (e 1 (by omega) (by omega)) (e 2 (by omega) (by omega)), a3.eq (e 3 (by omega) (by omega)) (e 4 (by omega) (by omega)), a4.eq (fun k _ _ => e k (by omega) (by omega)), a5.eq (fun k _ _ => e k (by omega) (by omega)), by rw [e 23 (by omega) (by omega)]; exact a6.1, fun s' hs' => ?_⟩
  unfold shu
  by_cases q : s' = s
  · subst q; rw [if_pos rfl]; exact y
  · rw [if_neg q]; exact (a6.2 s' hs').eq (e _ (by omega) (by omega)) (e _ (by omega) (by omega))
theorem S2C {s k : Nat} (hs : s < 4) (h : S2 s k) : CC32 k := by rcases h with rfl | rfl <;> (show _ < 32; omega)
theorem gd_sh {n a s : Nat} {g : Nat → Nat → Bool} {sh : Sh} {o : Option (Nat × Nat × (Nat → Int32))} (G : Gd n g a sh) (ho : ∀ fo sz it, o = some (fo, sz, it) → fo < 3 ∧ sz ≤ 100) : Gd n g a (shu sh s o) := by
  refine ⟨G.1, G.2.1, G.2.2.1, fun s' hs' fo sz it e => ?_⟩
  unfold shu at e
  by_cases q : s' = s
  · rw [if_pos q] at e; exact ho fo sz it e
  · rw [if_neg q] at e; exact G.2.2.2 s' hs' fo sz it e
theorem MX.sheets {h h' : Hp} {n a : Nat} {g : Nat → Nat → Bool} {fd : Int32} {sh sh' : Sh} (x : MX h n g a fd sh) (f : ∀ k, 32 ≤ k → k < 47 → (k < 42 ∨ k = 46) → h' k = h k) (y : MSH h' sh') : MX h' n g a fd sh' := by
  obtain ⟨a1, a2, a3, a4⟩ := x
  exact ⟨by rw [f 32 (by decide) (by decide) (by decide)]; exact a1, by rw [f 33 (by decide) (by decide) (by decide)]; exact a2, a3.eq (fun k h1 h2 h3 => f k (by omega) h2 h3), y⟩
/-! ===== sheet ===== -/
theorem l_startS {d : Nat} {P : Hp → Prop} {s : Nat} {fo : Int32} {m : Nat} (hs : s < 4) (hm : m ≤ 100) (h0 : Hp) (hP : ∀ h' f, h' (24 + 2 * s) = ob 1 [.ref (25 + 2 * s), .int 0, .int fo, .int (nI m)] → h' (25 + 2 * s) = iA 100 f → (∀ i, i < m → f i = 0) → Fr (S2 s) h0 h' → P h') :
    ∀ (e k : Nat) (h : Hp) (f : Nat → Int32), k + e = m → h (24 + 2 * s) = ob 1 [.ref (25 + 2 * s), .int 0, .int fo, .int (nI m)] → h (25 + 2 * s) = iA 100 f → (∀ i, i < k → f i = 0) → Fr (S2 s) h0 h → L_X1_start_17 d P h (24 + 2 * s) (nI m) (nI k) := by
  intro e
  induction e with
  | zero =>
    intro k h f hk e1 e2 e3 hF
    refine r_X1_start_17 (pk_le m k (fun c => ?_) (fun c => absurd c (by omega)))
    exact hP h f e1 e2 (fun i hi => e3 i (by omega)) hF
  | succ e ih =>
    intro k h f hk e1 e2 e3 hF
    refine r_X1_start_17 (pk_le m k (fun c => absurd c (by omega)) (fun c => ⟨25 + 2 * s, gR_o (by omega) e1 rfl, _, sI_o (by omega) e2 (by omega), ?_⟩))
    rw [nI1]
    refine ih (k + 1) _ (upd f k 0) (by omega) (by rw [hu_n (by omega)]; exact e1) hu_s (fun i hi => ?_) (hF.tr (Fr.hu (S := S2 s) (Or.inr rfl)))
    by_cases q : i = k
    · rw [q]; simp [upd]
    · rw [pk_un q]; exact e3 i (by omega)
theorem SHs.sh0 {h : Hp} {s : Nat} {o : Option (Nat × Nat × (Nat → Int32))} (y : SHs h s o) : ∃ l fo sz f, h (24 + 2 * s) = ob 1 [.ref (25 + 2 * s), .int l, .int fo, .int sz] ∧ h (25 + 2 * s) = iA 100 f := by
  unfold SHs at y
  match o, y with
  | none, ⟨fo, sz, f, e1, e2⟩ => exact ⟨_, fo, sz, f, e1, e2⟩
  | some (fo, sz, it), ⟨e1, f, e2, _⟩ => exact ⟨_, _, _, f, e1, e2⟩
theorem s_startS {d : Nat} {P : Hp → Prop} {h : Hp} {n a s fo m : Nat} {g : Nat → Nat → Bool} {fd : Int32} {sh : Sh} (hs : s < 4) (hm : m ≤ 100) (hC : CX h n g a fd sh) (hP : ∀ h', CX h' n g a fd (shu sh s (some (fo, m, fun _ => 0))) → Fr CC32 h h' → P h') : CV M_X1_start (d + 1) [.ref (24 + 2 * s), .int (nI fo), .int (nI m)] h P := by
  obtain ⟨l, f0, sz, f, e1, e2⟩ := (hC.2.2.2.2.2.2 s hs).sh0
  refine e_X1_start ⟨by omega, _, e1⟩ ⟨_, sF_o (by omega) e1 (by simp), _, sF_o (by omega) hu_s (by simp), _, sF_o (by omega) hu_s (by simp), ?_⟩
  refine l_startS (fo := nI fo) hs hm h (fun h' f' q1 q2 q3 q4 => hP h' (hC.sheet hs q4 ⟨q1, f', q2, q3⟩) (q4.mono (fun k => S2C hs))) m 0 _ f (by omega) hu_s ?_ (fun i hi => absurd hi (by omega)) ?_
  · rw [hu_n (by omega), hu_n (by omega), hu_n (by omega)]; exact e2
  · exact ((Fr.hu (S := S2 s) (Or.inl rfl)).tr (Fr.hu (Or.inl rfl))).tr (Fr.hu (Or.inl rfl))
theorem l100 {s i : Nat} : (100 : Int32) * nI s + nI i = nI (100 * s + i) := by
  rw [show (100 : Int32) = nI 100 from rfl, pk_mul, nI_add]
theorem l_sheetM {d : Nat} {P : Int32 → Hp → Prop} {s : Nat} {n a fd r : Int32} (hs : s < 4) (h0 : Hp) (fi0 : Nat → Int32) (hP : ∀ h' fi, h' 45 = iA 400 fi → (∀ i, i < 100 → fi (100 * s + i) = 0) → (∀ k, (k < 100 * s ∨ 100 * s + 100 ≤ k) → fi k = fi0 k) → Fr (fun k => k = 45) h0 h' → P r h') :
    ∀ (e k : Nat) (h : Hp) (fi : Nat → Int32), k + e = 100 → h 32 = mo n a fd → h 45 = iA 400 fi → (∀ i, i < k → fi (100 * s + i) = 0) → (∀ k, (k < 100 * s ∨ 100 * s + 100 ≤ k) → fi k = fi0 k) → Fr (fun k => k = 45) h0 h → L_X5_sheet_59 d P h 32 (nI s) r (nI k) := by
  intro e
  induction e with
  | zero =>
    intro k h fi hk hm e1 e2 e3 hF
    refine r_X5_sheet_59 (pk_le 100 k (fun c => ?_) (fun c => absurd c (by omega)))
    exact hP h fi e1 (fun i hi => e2 i (by omega)) e3 hF
  | succ e ih =>
    intro k h fi hk hm e1 e2 e3 hF
    refine r_X5_sheet_59 (pk_le 100 k (fun c => absurd c (by omega)) (fun c => ?_))
    rw [l100]
    refine ⟨45, gR_o (by decide) hm rfl, _, sI_o (by decide) e1 (by omega), ?_⟩
    rw [nI1]
    refine ih (k + 1) _ _ (by omega) (by rw [hu_n (by decide)]; exact hm) hu_s (fun i hi => ?_) (fun j hj => ?_) (hF.tr (Fr.hu (S := fun k => k = 45) rfl))
    · by_cases q : i = k
      · rw [q]; simp [upd]
      · rw [pk_un (by omega)]; exact e2 i (by omega)
    · rw [pk_un (by omega)]; exact e3 j hj
theorem op_sheet {n a : Nat} {g : Nat → Nat → Bool} {fd : Int32} {sh : Sh} (G : Gd n g a sh) (x y z : Int32) : OpI M_X4_sheet M_X5_sheet [.int x, .int y, .int z] n g a fd sh := by
  by_cases hb : isL 4 x = true ∧ isL 3 y = true ∧ z ≤ 100
  · obtain ⟨hx, hy, hz⟩ := hb
    by_cases hz0 : 0 ≤ z
    · obtain ⟨s, hs, rfl⟩ := isLN (by decide) hx
      obtain ⟨fo, hfo, rfl⟩ := isLN (by decide) hy
      obtain ⟨m, hm, rfl⟩ : ∃ m, m ≤ 100 ∧ z = nI m := nI_of2 (M := 100) (n := 100) (by decide) (Int32.not_lt.mpr hz0) hz
      refine ⟨nI m, n, g, a, fd, shu sh s (some (fo, m, fun _ => 0)), gd_sh G (fun _ _ _ e => by cases e; exact ⟨hfo, hm⟩), fun d h P hC hP => ?_, fun d h P hM hP => ?_⟩
      · exact e_X4_sheet hC.ok (s_isSheetX (zb (fun c => absurd (hx.symm.trans c) (by decide)) (fun _ => s_isFormX (zb (fun c => absurd (hy.symm.trans c) (by decide)) (fun _ => ⟨fun _ => ⟨fun _ => ⟨23, g4 hC, 24 + 2 * s, gq hC hs, s_startS hs hm hC hP⟩, fun c => absurd hz0 c⟩, fun c => absurd hz c⟩)))))
      · obtain ⟨fz, ff, fs, fi, b1, b2, b3, b4, b5⟩ := hM.2.2.2
        have hm1 := hM.1
        refine e_X5_sheet (mo_ok hM.1) (s_isSheetM (zb (fun c => absurd (hx.symm.trans c) (by decide)) (fun _ => s_inL (n := 3) (by decide) (by decide) (zb (fun c => absurd (hy.symm.trans c) (by decide)) (fun _ => ⟨fun _ => ⟨fun _ => ?_, fun c => absurd hz0 c⟩, fun c => absurd hz c⟩)))))
        refine ⟨42, gR_o (by decide) hm1 rfl, _, sZ_o (by decide) b1 hs (by decide), 43, gR_o (by decide) (by rw [hu_n (by decide)]; exact hm1) rfl, _, sI_o (by decide) (by rw [hu_n (by decide)]; exact b2) hs, 44, gR_o (by decide) (by rw [hu_n (by decide), hu_n (by decide)]; exact hm1) rfl, _, sI_o (by decide) (by rw [hu_n (by decide), hu_n (by decide)]; exact b3) hs, ?_⟩
        refine l_sheetM (n := nI n) (a := nI a) (fd := fd) hs _ fi (fun h' fi' q1 q2 q3 q4 => ?_) 100 0 _ fi rfl (by rw [hu_n (by decide), hu_n (by decide), hu_n (by decide)]; exact hm1) (by rw [hu_n (by decide), hu_n (by decide), hu_n (by decide)]; exact b4) (fun i hi => absurd hi (by omega)) (fun _ _ => rfl) Fr.rf
        have r42 : h' 42 = zA 4 (upd fz s 1) := by rw [q4 42 (by decide), hu_n (by decide), hu_n (by decide), hu_s]
        have r43 : h' 43 = iA 4 (upd ff s (nI fo)) := by rw [q4 43 (by decide), hu_n (by decide), hu_s]
        have r44 : h' 44 = iA 4 (upd fs s (nI m)) := by rw [q4 44 (by decide), hu_s]
        have rest : ∀ k, k ≠ 42 → k ≠ 43 → k ≠ 44 → k ≠ 45 → h' k = h k := fun k k1 k2 k3 k4 => by rw [q4 k k4, hu_n k3, hu_n k2, hu_n k1]
        refine hP h' (hM.sheets (fun k k1 k2 k3 => rest k (by omega) (by omega) (by omega) (by omega)) ⟨_, _, _, fi', r42, r43, r44, q1, fun s' hs' => ?_⟩) (fun k hk => rest k (fun e => hk (by omega)) (fun e => hk (by omega)) (fun e => hk (by omega)) (fun e => hk (by omega)))
        unfold shu
        by_cases q : s' = s
        · subst q
          rw [if_pos rfl]
          refine ⟨by simp [upd], by simp [upd], by simp [upd], fun i hi => q2 i (by omega)⟩
        · rw [if_neg q]
          have := b5 s' hs'
          unfold MSs at this ⊢
          rw [pk_un q, pk_un q, pk_un q]
          cases ho : sh s' with
          | none => rw [ho] at this; exact this
          | some o =>
            obtain ⟨fo', sz', it'⟩ := o
            rw [ho] at this
            have hsz := (G.2.2.2 s' hs' fo' sz' it' ho).2
            exact ⟨this.1, this.2.1, this.2.2.1, fun i hi => by rw [q3 _ (by omega)]; exact this.2.2.2 i hi⟩
    · refine ⟨-10 - 5, n, g, a, 5, sh, G, fun d h P hC hP => ?_, fun d h P hM hP => ?_⟩
      · exact e_X4_sheet hC.ok (s_isSheetX (zb (fun c => absurd (hx.symm.trans c) (by decide)) (fun _ => s_isFormX (zb (fun c => absurd (hy.symm.trans c) (by decide)) (fun _ => ⟨fun _ => ⟨fun c => absurd c hz0, fun _ => s_finding hC hP⟩, fun c => absurd hz c⟩)))))
      · exact e_X5_sheet (mo_ok hM.1) (s_isSheetM (zb (fun c => absurd (hx.symm.trans c) (by decide)) (fun _ => s_inL (n := 3) (by decide) (by decide) (zb (fun c => absurd (hy.symm.trans c) (by decide)) (fun _ => ⟨fun _ => ⟨fun c => absurd c hz0, fun _ => s_meets hM hP⟩, fun c => absurd hz c⟩)))))
  · refine ⟨-2, n, g, a, fd, sh, G, fun d h P hC hP => ?_, fun d h P hM hP => ?_⟩
    · exact e_X4_sheet hC.ok (s_isSheetX (zb (fun c => hP h hC Fr.rf) (fun c => s_isFormX (zb (fun c2 => hP h hC Fr.rf) (fun c2 => ⟨fun c3 => absurd ⟨c, c2, c3⟩ hb, fun _ => hP h hC Fr.rf⟩)))))
    · exact e_X5_sheet (mo_ok hM.1) (s_isSheetM (zb (fun c => hP h hM Fr.rf) (fun c => s_inL (n := 3) (by decide) (by decide) (zb (fun c2 => hP h hM Fr.rf) (fun c2 => ⟨fun c3 => absurd ⟨c, c2, c3⟩ hb, fun _ => hP h hM Fr.rf⟩)))))
/-! ===== lose ===== -/
theorem op_lose {n a : Nat} {g : Nat → Nat → Bool} {fd : Int32} {sh : Sh} (G : Gd n g a sh) (x : Int32) : OpI M_X4_lose M_X5_lose [.int x] n g a fd sh := by
  cases hx : isL 4 x
  · refine ⟨-2, n, g, a, fd, sh, G, fun d h P hC hP => ?_, fun d h P hM hP => ?_⟩
    · exact e_X4_lose hC.ok (s_isSheetX (bz (fun c => absurd (hx.symm.trans c) (by decide)) (fun _ => hP h hC Fr.rf)))
    · exact e_X5_lose (mo_ok hM.1) (s_isSheetM (bz (fun c => absurd (hx.symm.trans c) (by decide)) (fun _ => hP h hM Fr.rf)))
  · obtain ⟨s, hs, rfl⟩ := isLN (by decide) hx
    cases ho : sh s with
    | none =>
      refine ⟨-10 - 1, n, g, a, 1, sh, G, fun d h P hC hP => ?_, fun d h P hM hP => ?_⟩
      · have y := hC.2.2.2.2.2.2 s hs
        rw [ho] at y
        obtain ⟨fo, sz, f, e1, e2⟩ := y
        exact e_X4_lose hC.ok (s_isSheetX (bz (fun _ => ⟨23, g4 hC, 24 + 2 * s, gq hC hs, 1, gI_o (by omega) e1 rfl, fun c => absurd c (by decide), fun _ => s_finding hC hP⟩) (fun c => absurd (hx.symm.trans c) (by decide))))
      · obtain ⟨fz, ff, fs, fi, b1, b2, b3, b4, b5⟩ := hM.2.2.2
        have y := b5 s hs
        rw [ho] at y
        have y : fz s = 0 := y
        refine e_X5_lose (mo_ok hM.1) (s_isSheetM (bz (fun _ => ⟨42, gR_o (by decide) hM.1 rfl, fz s, lZ_o (by decide) b1 hs, fun c => absurd y c, fun _ => s_meets hM hP⟩) (fun c => absurd (hx.symm.trans c) (by decide))))
    | some o =>
      obtain ⟨fo, sz, it⟩ := o
      refine ⟨nI sz, n, g, a, fd, shu sh s none, gd_sh G (fun _ _ _ e => by cases e), fun d h P hC hP => ?_, fun d h P hM hP => ?_⟩
      · have y := hC.2.2.2.2.2.2 s hs
        rw [ho] at y
        obtain ⟨e1, f, e2, e3⟩ := y
        refine e_X4_lose hC.ok (s_isSheetX (bz (fun _ => ⟨23, g4 hC, 24 + 2 * s, gq hC hs, 0, gI_o (by omega) e1 rfl, fun _ => ⟨_, sF_o (by omega) e1 (by simp), nI sz, gI_o (by omega) hu_s rfl, ?_⟩, fun c => absurd rfl c⟩) (fun c => absurd (hx.symm.trans c) (by decide))))
        have hF := Fr.hu (S := S2 s) (h := h) (k := 24 + 2 * s) (c := ob 1 [.ref (25 + 2 * s), .int 1, .int (nI fo), .int (nI sz)]) (Or.inl rfl)
        exact hP _ (hC.sheet hs hF ⟨nI fo, nI sz, f, hu_s, by rw [hu_n (by omega)]; exact e2⟩) (hF.mono (fun k => S2C hs))
      · obtain ⟨fz, ff, fs, fi, b1, b2, b3, b4, b5⟩ := hM.2.2.2
        have y := b5 s hs
        rw [ho] at y
        obtain ⟨y1, y2, y3, y4⟩ := y
        refine e_X5_lose (mo_ok hM.1) (s_isSheetM (bz (fun _ => ⟨42, gR_o (by decide) hM.1 rfl, fz s, lZ_o (by decide) b1 hs, fun _ => ⟨42, gR_o (by decide) hM.1 rfl, _, sZ_o (by decide) b1 hs (by decide), 44, gR_o (by decide) (by rw [hu_n (by decide)]; exact hM.1) rfl, fs s, lI_o (by decide) (by rw [hu_n (by decide)]; exact b3) hs, ?_⟩, fun c => ?_⟩) (fun c => absurd (hx.symm.trans c) (by decide))))
        · rw [y3]
          have rest : ∀ k, k ≠ 42 → hu h 42 (zA 4 (upd fz s 0)) k = h k := fun k k1 => hu_n k1
          refine hP _ (hM.sheets (fun k k1 k2 k3 => rest k (by omega)) ⟨_, ff, fs, fi, hu_s, by rw [rest 43 (by decide)]; exact b2, by rw [rest 44 (by decide)]; exact b3, by rw [rest 45 (by decide)]; exact b4, fun s' hs' => ?_⟩) (Fr.hu (S := MM32) (by decide))
          unfold shu
          by_cases q : s' = s
          · subst q; rw [if_pos rfl]; show upd fz s' 0 s' = 0; simp [upd]
          · rw [if_neg q]
            have := b5 s' hs'
            unfold MSs at this ⊢
            rw [pk_un q]
            exact this
        · rw [y1] at c; exact absurd c (by decide)
