/-! ===== the reference: its object at 32, its table at 33 ===== -/
def mo (n a fd : Int32) : Cl := ob 5 [.int n, .ref 33, .int a, .ref 34, .ref 35, .ref 36, .ref 37, .ref 38, .ref 39, .ref 40, .ref 41, .ref 42, .ref 43, .ref 44, .ref 45, .ref 46, .int fd]
theorem s_in {d : Nat} {P : Int32 → Hp → Prop} {h : Hp} {v lo hi : Int32} (hP : P (b2i (decide (lo ≤ v ∧ v ≤ hi))) h) : CI M_X5_in (d + 1) [.int v, .int lo, .int hi] h P := by
  refine e_X5_in ⟨fun c => ?_, fun c => ⟨fun c2 => ?_, fun c2 => ?_⟩⟩
  · rw [show decide (lo ≤ v ∧ v ≤ hi) = false by simp [Int32.not_le.mpr c]] at hP; exact hP
  · rw [show decide (lo ≤ v ∧ v ≤ hi) = false by simp [Int32.not_le.mpr c2]] at hP; exact hP
  · rw [show decide (lo ≤ v ∧ v ≤ hi) = true by simp [Int32.not_lt.mp c, Int32.not_lt.mp c2]] at hP; exact hP
theorem in_nI {n : Nat} (hn : n < 2 ^ 30) (x : Int32) : decide ((0 : Int32) ≤ x ∧ x ≤ nI n - 1) = decide (0 ≤ x ∧ x < nI n) := by
  have e : (nI n - 1).toInt = (n : Int) - 1 := pk_sub_toInt (a := n) (b := 1) (by omega) (by decide)
  have e2 : (nI n).toInt = (n : Int) := nI_toInt (by omega)
  have : (0 ≤ x ∧ x ≤ nI n - 1) ↔ (0 ≤ x ∧ x < nI n) := by
    rw [Int32.le_iff_toInt_le, Int32.le_iff_toInt_le, Int32.lt_iff_toInt_lt, e, e2]
    omega
  simp only [this]
theorem mo_ok {h : Hp} {n a fd : Int32} (h1 : h 32 = mo n a fd) : (32 : Nat) < 47 ∧ ∃ fs, h 32 = .inr (5, fs) := ⟨by decide, _, h1⟩
theorem s_isLineM {d : Nat} {P : Int32 → Hp → Prop} {h : Hp} {n : Nat} {a fd x : Int32} (hn : n ≤ 10) (hm : h 32 = mo (nI n) a fd) (hP : P (b2i (decide (0 ≤ x ∧ x < nI n))) h) : CI M_X5_isLine (d + 2) [.ref 32, .int x] h P := by
  refine e_X5_isLine (mo_ok hm) ⟨nI n, gI_o (by decide) hm rfl, s_in ⟨?_, ?_⟩⟩
  · unfold b2i; split <;> simp
  · rw [in_nI (by omega)]; exact hP
theorem l10 {i j : Nat} : (10 : Int32) * nI i + nI j = nI (10 * i + j) := by
  rw [show (10 : Int32) = nI 10 from rfl, pk_mul, nI_add]
abbrev M1 : Nat → Prop := fun k => k = 33
theorem s_setM {d : Nat} {P : Hp → Prop} {h : Hp} {n a fd v : Int32} {t : Nat → Int32} {i j : Nat} (hm : h 32 = mo n a fd) (ht : h 33 = iA 100 t) (hi : i < 10) (hj : j < 10) (hP : ∀ h', h' 33 = iA 100 (upd (upd t (10 * i + j) v) (10 * j + i) v) → Fr M1 h h' → P h') : CV M_X5_set (d + 1) [.ref 32, .int (nI i), .int (nI j), .int v] h P := by
  refine e_X5_set (mo_ok hm) ?_
  rw [l10, l10]
  refine ⟨33, gR_o (by decide) hm rfl, _, sI_o (by decide) ht (by omega), 33, gR_o (by decide) (by rw [hu_n (by decide)]; exact hm) rfl, _, sI_o (by decide) hu_s (by omega), ?_⟩
  exact hP _ hu_s ((Fr.hu (S := M1) rfl).tr (Fr.hu rfl))
/-- the reference's table holds the signs of n lines -/
def TM (t : Nat → Int32) (n : Nat) (g : Nat → Nat → Bool) : Prop := (∀ i, i < 10 → t (11 * i) = 0) ∧ ∀ i j, i < n → j < n → i ≠ j → t (10 * i + j) = pm (g i j)
theorem upd2 {t : Nat → Int32} {i j x y : Nat} {v : Int32} (hi : i < 10) (hj : j < 10) (hx : x < 10) (hy : y < 10) : upd (upd t (10 * i + j) v) (10 * j + i) v (10 * x + y) = if (x = i ∧ y = j) ∨ (x = j ∧ y = i) then v else t (10 * x + y) := by
  unfold upd
  by_cases a1 : x = j ∧ y = i
  · obtain ⟨rfl, rfl⟩ := a1; simp
  · rw [if_neg (show ¬ 10 * x + y = 10 * j + i by omega)]
    by_cases a2 : x = i ∧ y = j
    · obtain ⟨rfl, rfl⟩ := a2; simp
    · rw [if_neg (show ¬ 10 * x + y = 10 * i + j by omega), if_neg (by omega)]
theorem upd2d {t : Nat → Int32} {i j x : Nat} {v : Int32} (hi : i < 10) (hj : j < 10) (hij : i ≠ j) (hx : x < 10) : upd (upd t (10 * i + j) v) (10 * j + i) v (11 * x) = t (11 * x) := by
  rw [show 11 * x = 10 * x + x by omega, upd2 hi hj hx hx, if_neg (by omega)]
theorem TM.set {t : Nat → Int32} {n i j : Nat} {g : Nat → Nat → Bool} {w : Bool} {v : Int32} (hv : v = pm w) (hn : n ≤ 10) (hi : i < n) (hj : j < n) (hij : i ≠ j) (h : TM t n g) : TM (upd (upd t (10 * i + j) v) (10 * j + i) v) n (stg g i j w) := by
  refine ⟨fun x hx => by rw [upd2d (by omega) (by omega) hij hx]; exact h.1 x hx, fun x y hx hy hxy => ?_⟩
  rw [upd2 (by omega) (by omega) (by omega) (by omega)]
  unfold stg
  by_cases q : (x = i ∧ y = j) ∨ (x = j ∧ y = i)
  · rw [if_pos q, if_pos q, hv]
  · rw [if_neg q, if_neg q]; exact h.2 x y hx hy hxy
theorem TM.eq {t : Nat → Int32} {n : Nat} {g g' : Nat → Nat → Bool} (h : TM t n g) (hg : ∀ x y, x < n → y < n → x ≠ y → g x y = g' x y) : TM t n g' := ⟨h.1, fun x y hx hy hxy => by rw [h.2 x y hx hy hxy, hg x y hx hy hxy]⟩
/-! lines -/
theorem l_linesM {d : Nat} {P : Int32 → Hp → Prop} {n a fd w : Int32} (h0 : Hp) (hP : ∀ h' t, h' 33 = iA 100 t → (∀ i, i < 10 → t (11 * i) = 0) → (∀ i j, i < 10 → j < 10 → i ≠ j → t (10 * i + j) = 1) → Fr M1 h0 h' → P w h') :
    ∀ (m I : Nat) (h : Hp) (t : Nat → Int32), I + m = 10 → h 32 = mo n a fd → h 33 = iA 100 t → (∀ i, i < 10 → t (11 * i) = 0) → (∀ i j, i < I → j < I → i ≠ j → t (10 * i + j) = 1) → Fr M1 h0 h → L_X5_lines_25 (d + 1) P h 32 w (nI I) := by
  intro m
  induction m with
  | zero =>
    intro I h t hI hm ht h1 h2 hF
    refine r_X5_lines_25 (pk_le 10 I (fun c => ?_) (fun c => absurd c (by omega)))
    have : I = 10 := by omega
    subst this
    exact hP h t ht h1 h2 hF
  | succ m ih =>
    intro I h t hI hm ht h1 h2 hF
    refine r_X5_lines_25 (pk_le 10 I (fun c => absurd c (by omega)) (fun c => ?_))
    have inner : ∀ (k J : Nat) (h : Hp) (t : Nat → Int32), J + k = I → h 32 = mo n a fd → h 33 = iA 100 t → (∀ i, i < 10 → t (11 * i) = 0) → (∀ i j, i < I → j < I → i ≠ j → t (10 * i + j) = 1) → (∀ j, j < J → t (10 * I + j) = 1 ∧ t (10 * j + I) = 1) → Fr M1 h0 h → L_X5_lines_34 (d + 1) P h 32 w (nI I) (nI J) := by
      intro k
      induction k with
      | zero =>
        intro J h t hJ hm ht h1 h2 h3 hF
        refine r_X5_lines_34 (pk_le I J (fun c => ?_) (fun c => absurd c (by omega)))
        rw [nI1]
        refine ih (I + 1) h t (by omega) hm ht h1 (fun i j hi hj hij => ?_) hF
        by_cases a1 : i = I
        · subst a1; exact (h3 j (by omega)).1
        · by_cases a2 : j = I
          · subst a2; exact (h3 i (by omega)).2
          · exact h2 i j (by omega) (by omega) hij
      | succ k ihk =>
        intro J h t hJ hm ht h1 h2 h3 hF
        refine r_X5_lines_34 (pk_le I J (fun c => absurd c (by omega)) (fun c => ?_))
        refine s_setM hm ht (by omega) (by omega) (fun h' ht' hF' => ?_)
        rw [nI1]
        refine ihk (J + 1) h' _ (by omega) (by rw [hF' 32 (by decide)]; exact hm) ht' (fun i hi => by rw [upd2d (by omega) (by omega) (by omega) hi]; exact h1 i hi) (fun i j hi hj hij => ?_) (fun j hj => ⟨?_, ?_⟩) (hF.tr hF')
        · rw [upd2 (by omega) (by omega) (by omega) (by omega)]
          split
          · rfl
          · exact h2 i j hi hj hij
        · rw [upd2 (by omega) (by omega) (by omega) (by omega)]
          split
          · rfl
          · exact (h3 j (by omega)).1
        · rw [upd2 (by omega) (by omega) (by omega) (by omega)]
          split
          · rfl
          · exact (h3 j (by omega)).2
    exact inner I 0 h t (by omega) hm ht h1 h2 (fun j hj => absurd hj (by omega)) hF
abbrev M2 : Nat → Prop := fun k => k = 32 ∨ k = 33
theorem M12 : ∀ k, M1 k → M2 k := fun _ h => Or.inr h
theorem s_linesM {d : Nat} {P : Int32 → Hp → Prop} {h : Hp} {n : Nat} {m a fd : Int32} {t : Nat → Int32} (hn : n ≤ 10) (hm : h 32 = mo m a fd) (ht : h 33 = iA 100 t) (hd : ∀ i, i < 10 → t (11 * i) = 0)
    (hP : ∀ h' t', h' 32 = mo (nI n) a fd → h' 33 = iA 100 t' → TM t' n (fun _ _ => false) → Fr M2 h h' → P m h') : CI M_X5_lines (d + 2) [.ref 32, .int (nI n)] h P := by
  refine e_X5_lines (mo_ok hm) (s_in ?_)
  have e : decide ((0 : Int32) ≤ nI n ∧ nI n ≤ (10 : Int32)) = true := by
    have h1 : (0 : Int32) ≤ nI n := nI_pos' (by omega)
    have h2 : nI n ≤ (10 : Int32) := nI_le (b := 10) hn (by decide)
    simp [h1, h2]
  rw [e]
  refine ⟨fun _ => ⟨m, gI_o (by decide) hm rfl, _, sF_o (by decide) hm (by simp), ?_⟩, fun c => absurd c (by decide)⟩
  refine l_linesM (n := nI n) (a := a) (fd := fd) _ (fun h' t' e1 e2 e3 e4 => ?_) 10 0 _ t rfl hu_s (by rw [hu_n (by decide)]; exact ht) hd (fun i j hi => absurd hi (by omega)) Fr.rf
  exact hP h' t' (by rw [e4 32 (by decide)]; exact hu_s) e1 ⟨e2, fun i j hi hj hij => e3 i j (by omega) (by omega) hij⟩ ((Fr.hu (S := M2) (Or.inl rfl)).tr (e4.mono M12))
/-! turning -/
theorem trn_same {g : Nat → Nat → Bool} {k : Nat} (x y : Nat) : trn g k k x y = trn g (k + 1) k x y := by
  unfold trn
  have e1 : (y < k ∧ y ≠ k) ↔ (y < k + 1 ∧ y ≠ k) := by omega
  have e2 : (x < k ∧ x ≠ k) ↔ (x < k + 1 ∧ x ≠ k) := by omega
  simp only [e1, e2]
theorem trn_at {g : Nat → Nat → Bool} {k i : Nat} (q : k ≠ i) : trn g k i i k = g i k := by
  unfold trn
  rw [if_neg]
  rintro (⟨_, r, _⟩ | ⟨r, _⟩)
  · omega
  · exact q r
theorem trn_step {n k i : Nat} {g : Nat → Nat → Bool} (hg : WF n g) (q : k ≠ i) (x y : Nat) : stg (trn g k i) i k (!(g i k)) x y = trn g (k + 1) i x y := by
  unfold stg trn
  by_cases a1 : x = i ∧ y = k
  · obtain ⟨rfl, rfl⟩ := a1
    have : (y < y + 1 ∧ y ≠ x) := ⟨by omega, q⟩
    simp [this]
  · by_cases a2 : x = k ∧ y = i
    · obtain ⟨rfl, rfl⟩ := a2
      have : (x < x + 1 ∧ x ≠ y) := ⟨by omega, q⟩
      simp [this, hg.1 x y]
    · rw [if_neg (by rintro (r | r); exact a1 r; exact a2 r)]
      have e1 : (x = i ∧ y < k ∧ y ≠ i) ↔ (x = i ∧ y < k + 1 ∧ y ≠ i) := by omega
      have e2 : (y = i ∧ x < k ∧ x ≠ i) ↔ (y = i ∧ x < k + 1 ∧ x ≠ i) := by omega
      simp only [e1, e2]
theorem pm_neg (b : Bool) : -(pm b) = pm (!b) := by cases b <;> rfl
theorem pm_ge (b : Bool) : (0 ≤ pm b) ↔ b = false := by cases b <;> decide
theorem pm_mul (a b : Bool) : pm a * pm b = pm (a ^^ b) := by cases a <;> cases b <;> rfl
theorem nI0 (k : Nat) : (nI k + (0 : Int32)) = nI k := by rw [show (0 : Int32) = nI 0 from rfl, nI_add]; rfl
def tct (g : Nat → Nat → Bool) (i k : Nat) : Nat := fb_ct (fun y => !decide (y = i) && !g i y) k
theorem l_turnM {d : Nat} {P : Int32 → Hp → Prop} {n i : Nat} {a fd : Int32} {g : Nat → Nat → Bool} (hn : n ≤ 10) (hi : i < n) (hg : WF n g) (h0 : Hp) (hP : ∀ h' t', h' 33 = iA 100 t' → TM t' n (trn g n i) → Fr M1 h0 h' → P (nI (tct g i n)) h') :
    ∀ (m k : Nat) (h : Hp) (t : Nat → Int32), k + m = n → h 32 = mo (nI n) a fd → h 33 = iA 100 t → TM t n (trn g k i) → Fr M1 h0 h → L_X5_turn_15 (d + 1) P h 32 (nI i) (nI (tct g i k)) (nI k) := by
  intro m
  induction m with
  | zero =>
    intro k h t hk hm ht hT hF
    refine r_X5_turn_15 ⟨nI n, gI_o (by decide) hm rfl, pk_le n k (fun c => ?_) (fun c => absurd c (by omega))⟩
    have : k = n := by omega
    subst this
    exact hP h t ht hT hF
  | succ m ih =>
    intro k h t hk hm ht hT hF
    refine r_X5_turn_15 ⟨nI n, gI_o (by decide) hm rfl, pk_le n k (fun c => absurd c (by omega)) (fun c => pk_eq k i (fun q => ?_) (fun q => ?_))⟩
    · subst q
      rw [nI1]
      have e : tct g k (k + 1) = tct g k k := by unfold tct; rw [fb_ct_succ]; simp
      have := ih (k + 1) h t (by omega) hm ht (hT.eq (fun x y _ _ _ => trn_same x y)) hF
      rw [e] at this
      exact this
    · rw [l10]
      refine ⟨33, gR_o (by decide) hm rfl, _, lI_o (by decide) ht (by omega), ?_⟩
      rw [hT.2 i k hi (by omega) (fun r => q r.symm), trn_at q, pm_neg]
      refine s_setM hm ht (by omega) (by omega) (fun h' ht' hF' => ?_)
      have hm' : h' 32 = mo (nI n) a fd := by rw [hF' 32 (by decide)]; exact hm
      have hT' := (TM.set (w := !g i k) rfl hn hi (by omega) (fun r => q r.symm) hT).eq (fun x y _ _ _ => trn_step hg q x y)
      refine ⟨33, gR_o (by decide) hm' rfl, _, lI_o (by decide) ht' (by omega), ?_⟩
      have ev : upd (upd t (10 * i + k) (pm !g i k)) (10 * k + i) (pm !g i k) (10 * i + k) = pm (!g i k) := by
        rw [upd2 (by omega) (by omega) (by omega) (by omega), if_pos (Or.inl ⟨rfl, rfl⟩)]
      rw [ev, pm_ge, nI1, nI0, nI1]
      have nx := ih (k + 1) h' _ (by omega) hm' ht' hT' (hF.tr hF')
      have e : tct g i (k + 1) = tct g i k + (if (!g i k) = true then 1 else 0) := by
        unfold tct; rw [fb_ct_succ]; simp [q]
      rw [e] at nx
      cases hb : g i k
      · rw [hb] at nx
        exact ⟨fun c => absurd c (by decide), fun _ => nx⟩
      · rw [hb] at nx
        exact ⟨fun _ => nx, fun c => absurd rfl c⟩
/-! lines that change their numbers -/
def cgk (g : Nat → Nat → Bool) (i j k : Nat) : Nat → Nat → Bool := fun x y =>
  if y < k ∧ y ≠ i ∧ y ≠ j ∧ (x = i ∨ x = j) then g (swp i j x) y else if x < k ∧ x ≠ i ∧ x ≠ j ∧ (y = i ∨ y = j) then g x (swp i j y) else g x y
theorem cgk_step {n i j k : Nat} {g : Nat → Nat → Bool} (hg : WF n g) (q1 : k ≠ i) (q2 : k ≠ j) (x y : Nat) : stg (stg (cgk g i j k) i k (g j k)) j k (g i k) x y = cgk g i j (k + 1) x y := by
  have s1 : swp i j i = j := by unfold swp; simp
  have s2 : swp i j j = i := by unfold swp; by_cases e : j = i <;> simp [e]
  unfold stg
  by_cases a1 : (x = j ∧ y = k) ∨ (x = k ∧ y = j)
  · rw [if_pos a1]
    unfold cgk
    rcases a1 with ⟨rfl, rfl⟩ | ⟨rfl, rfl⟩
    · rw [if_pos (by omega), s2]
    · rw [if_neg (by omega), if_pos (by omega), s2, hg.1]
  · rw [if_neg a1]
    by_cases a2 : (x = i ∧ y = k) ∨ (x = k ∧ y = i)
    · rw [if_pos a2]
      unfold cgk
      rcases a2 with ⟨rfl, rfl⟩ | ⟨rfl, rfl⟩
      · rw [if_pos (by omega), s1]
      · rw [if_neg (by omega), if_pos (by omega), s1, hg.1]
    · rw [if_neg a2]
      unfold cgk
      have e1 : (y < k ∧ y ≠ i ∧ y ≠ j ∧ (x = i ∨ x = j)) ↔ (y < k + 1 ∧ y ≠ i ∧ y ≠ j ∧ (x = i ∨ x = j)) := by omega
      have e2 : (x < k ∧ x ≠ i ∧ x ≠ j ∧ (y = i ∨ y = j)) ↔ (x < k + 1 ∧ x ≠ i ∧ x ≠ j ∧ (y = i ∨ y = j)) := by omega
      simp only [e1, e2]
theorem cgk_skip {i j k : Nat} {g : Nat → Nat → Bool} (q : k = i ∨ k = j) (x y : Nat) : cgk g i j k x y = cgk g i j (k + 1) x y := by
  unfold cgk
  have e1 : (y < k ∧ y ≠ i ∧ y ≠ j ∧ (x = i ∨ x = j)) ↔ (y < k + 1 ∧ y ≠ i ∧ y ≠ j ∧ (x = i ∨ x = j)) := by omega
  have e2 : (x < k ∧ x ≠ i ∧ x ≠ j ∧ (y = i ∨ y = j)) ↔ (x < k + 1 ∧ x ≠ i ∧ x ≠ j ∧ (y = i ∨ y = j)) := by omega
  simp only [e1, e2]
theorem cgk_end {n i j : Nat} {g : Nat → Nat → Bool} (hg : WF n g) {x y : Nat} (hx : x < n) (hy : y < n) (hxy : x ≠ y) : cgk g i j n x y = g (swp i j x) (swp i j y) := by
  unfold cgk
  by_cases a1 : y ≠ i ∧ y ≠ j ∧ (x = i ∨ x = j)
  · rw [if_pos ⟨hy, a1⟩]
    have : swp i j y = y := by unfold swp; rw [if_neg a1.1, if_neg a1.2.1]
    rw [this]
  · rw [if_neg (fun r => a1 r.2)]
    by_cases a2 : x ≠ i ∧ x ≠ j ∧ (y = i ∨ y = j)
    · rw [if_pos ⟨hx, a2⟩]
      have : swp i j x = x := by unfold swp; rw [if_neg a2.1, if_neg a2.2.1]
      rw [this]
    · rw [if_neg (fun r => a2 r.2)]
      by_cases a3 : x = i ∨ x = j
      · have a4 : y = i ∨ y = j := by omega
        rcases a3 with rfl | rfl
        · have : y = j := by omega
          subst this
          have e1 : swp x y x = y := by unfold swp; simp
          have e2 : swp x y y = x := by unfold swp; rw [if_neg (fun r => hxy r.symm)]; simp
          rw [e1, e2]; exact hg.1 x y
        · have : y = i := by omega
          subst this
          have e1 : swp y x x = y := by unfold swp; rw [if_neg hxy]; simp
          have e2 : swp y x y = x := by unfold swp; simp
          rw [e1, e2]; exact hg.1 x y
      · have a4 : ¬ (y = i ∨ y = j) := by omega
        have e1 : swp i j x = x := by unfold swp; rw [if_neg (by omega), if_neg (by omega)]
        have e2 : swp i j y = y := by unfold swp; rw [if_neg (by omega), if_neg (by omega)]
        rw [e1, e2]
theorem l_changeM {d : Nat} {P : Int32 → Hp → Prop} {n i j : Nat} {a fd : Int32} {g : Nat → Nat → Bool} (hn : n ≤ 10) (hi : i < n) (hj : j < n) (hg : WF n g) (h0 : Hp) (hP : ∀ h' t', h' 33 = iA 100 t' → TM t' n (fun x y => g (swp i j x) (swp i j y)) → Fr M1 h0 h' → P 1 h') :
    ∀ (m k : Nat) (h : Hp) (t : Nat → Int32), k + m = n → h 32 = mo (nI n) a fd → h 33 = iA 100 t → TM t n (cgk g i j k) → Fr M1 h0 h → L_X5_change_21 (d + 1) P h 32 (nI i) (nI j) (nI k) := by
  intro m
  induction m with
  | zero =>
    intro k h t hk hm ht hT hF
    refine r_X5_change_21 ⟨nI n, gI_o (by decide) hm rfl, pk_le n k (fun c => ?_) (fun c => absurd c (by omega))⟩
    have : k = n := by omega
    subst this
    exact hP h t ht (hT.eq (fun x y hx hy hxy => cgk_end hg hx hy hxy)) hF
  | succ m ih =>
    intro k h t hk hm ht hT hF
    have skip : (k = i ∨ k = j) → L_X5_change_21 (d + 1) P h 32 (nI i) (nI j) (nI k + (1 : Int32)) := fun q => by
      rw [nI1]
      exact ih (k + 1) h t (by omega) hm ht (hT.eq (fun x y _ _ _ => cgk_skip q x y)) hF
    refine r_X5_change_21 ⟨nI n, gI_o (by decide) hm rfl, pk_le n k (fun c => absurd c (by omega)) (fun c => pk_eq k i (fun q => skip (Or.inl q)) (fun q => pk_eq k j (fun q2 => skip (Or.inr q2)) (fun q2 => ?_)))⟩
    have g1 : cgk g i j k i k = g i k := by unfold cgk; rw [if_neg (by omega), if_neg (by omega)]
    have g2 : cgk g i j k j k = g j k := by unfold cgk; rw [if_neg (by omega), if_neg (by omega)]
    rw [l10, l10]
    refine ⟨33, gR_o (by decide) hm rfl, _, lI_o (by decide) ht (by omega), 33, gR_o (by decide) hm rfl, _, lI_o (by decide) ht (by omega), ?_⟩
    rw [hT.2 i k hi (by omega) (by omega), hT.2 j k hj (by omega) (by omega), g1, g2]
    refine s_setM hm ht (by omega) (by omega) (fun h1 ht1 hF1 => ?_)
    have hm1 : h1 32 = mo (nI n) a fd := by rw [hF1 32 (by decide)]; exact hm
    refine s_setM hm1 ht1 (by omega) (by omega) (fun h2 ht2 hF2 => ?_)
    have hm2 : h2 32 = mo (nI n) a fd := by rw [hF2 32 (by decide)]; exact hm1
    rw [nI1]
    exact ih (k + 1) h2 _ (by omega) hm2 ht2 ((TM.set (w := g i k) rfl hn hj (by omega) (by omega) (TM.set (w := g j k) rfl hn hi (by omega) (by omega) hT)).eq (fun x y _ _ _ => cgk_step hg q q2 x y)) ((hF.tr hF1).tr hF2)
/-! odd triples -/
theorem s_isOddM {d : Nat} {P : Int32 → Hp → Prop} {h : Hp} {n i j k : Nat} {m a fd : Int32} {t : Nat → Int32} {g : Nat → Nat → Bool} (hn : n ≤ 10) (hi : i < n) (hj : j < n) (hk : k < n) (hij : i ≠ j) (hik : k ≠ i) (hjk : k ≠ j) (hm : h 32 = mo m a fd) (ht : h 33 = iA 100 t) (hT : TM t n g)
    (hP : P (b2i ((g i j ^^ g i k) ^^ g j k)) h) : CI M_X5_isOdd (d + 1) [.ref 32, .int (nI i), .int (nI j), .int (nI k)] h P := by
  refine e_X5_isOdd (mo_ok hm) ?_
  rw [l10, l10, l10]
  refine ⟨33, gR_o (by decide) hm rfl, _, lI_o (by decide) ht (by omega), 33, gR_o (by decide) hm rfl, _, lI_o (by decide) ht (by omega), 33, gR_o (by decide) hm rfl, _, lI_o (by decide) ht (by omega), ?_⟩
  rw [hT.2 i j hi hj hij, hT.2 i k hi hk (by omega), hT.2 j k hj hk (by omega), pm_mul, pm_mul, pm_ge]
  unfold b2i at hP
  cases hb : ((g i j ^^ g i k) ^^ g j k) <;> simp [hb] at hP ⊢ <;> exact hP
theorem l_togetherM {d : Nat} {P : Int32 → Hp → Prop} {h : Hp} {n i j : Nat} {a fd : Int32} {t : Nat → Int32} {g : Nat → Nat → Bool} (hn : n ≤ 10) (hi : i < n) (hj : j < n) (hij : i ≠ j) (hm : h 32 = mo (nI n) a fd) (ht : h 33 = iA 100 t) (hT : TM t n g) (hP : P (nI (tog n g i j)) h) :
    ∀ (m k : Nat), k + m = n → L_X5_togetherOf_5 (d + 1) P h 32 (nI i) (nI j) (nI (tog k g i j)) (nI k) := by
  intro m
  induction m with
  | zero =>
    intro k hk
    refine r_X5_togetherOf_5 ⟨nI n, gI_o (by decide) hm rfl, pk_le n k (fun c => ?_) (fun c => absurd c (by omega))⟩
    rw [show k = n by omega]; exact hP
  | succ m ih =>
    intro k hk
    have nx := ih (k + 1) (by omega)
    have e : tog (k + 1) g i j = tog k g i j + (if ((!decide (k = i) && !decide (k = j)) && ((g i j ^^ g i k) ^^ g j k)) = true then 1 else 0) := by unfold tog; rw [fb_ct_succ]
    refine r_X5_togetherOf_5 ⟨nI n, gI_o (by decide) hm rfl, pk_le n k (fun c => absurd c (by omega)) (fun c => pk_eq k i (fun q => ?_) (fun q => pk_eq k j (fun q2 => ?_) (fun q2 => ?_)))⟩
    · rw [nI0, nI1]; rw [e] at nx; simpa [q] using nx
    · rw [nI0, nI1]; rw [e] at nx; simpa [q2] using nx
    · refine s_isOddM hn hi hj (by omega) hij q q2 hm ht hT ?_
      rw [nI0, nI1, nI1]
      rw [e] at nx
      cases hb : ((g i j ^^ g i k) ^^ g j k)
      · refine ⟨fun _ => ?_, fun c => absurd rfl c⟩
        simpa [hb] using nx
      · refine ⟨fun c => absurd c (by decide), fun _ => ?_⟩
        simpa [hb, q, q2] using nx
theorem s_togetherM {d : Nat} {P : Int32 → Hp → Prop} {h : Hp} {n i j : Nat} {a fd : Int32} {t : Nat → Int32} {g : Nat → Nat → Bool} (hn : n ≤ 10) (hi : i < n) (hj : j < n) (hij : i ≠ j) (hm : h 32 = mo (nI n) a fd) (ht : h 33 = iA 100 t) (hT : TM t n g) (hP : P (nI (tog n g i j)) h) : CI M_X5_togetherOf (d + 2) [.ref 32, .int (nI i), .int (nI j)] h P :=
  e_X5_togetherOf (mo_ok hm) (l_togetherM hn hi hj hij hm ht hT hP n 0 (by omega))
def usum (n : Nat) (g : Nat → Nat → Bool) (I : Nat) : Nat := fb_sm (fun i => fb_sm (fun e => tog n g i (i + 1 + e)) (n - 1 - i)) I
theorem tri_swap (F : Nat → Nat → Nat) : ∀ n, fb_sm (fun i => fb_sm (fun e => F i (i + 1 + e)) (n - 1 - i)) n = fb_sm (fun j => fb_sm (fun i => F i j) j) n
  | 0 => rfl
  | n + 1 => by
    have ih := tri_swap F n
    rw [fb_sm_succ, fb_sm_succ, ← ih]
    have h1 : fb_sm (fun e => F n (n + 1 + e)) (n + 1 - 1 - n) = 0 := by rw [show n + 1 - 1 - n = 0 by omega]; rfl
    rw [h1, Nat.add_zero, ← fb_sm_add]
    refine fb_sm_cong (fun k hk => ?_)
    rw [show n + 1 - 1 - k = (n - 1 - k) + 1 by omega, fb_sm_succ, show k + 1 + (n - 1 - k) = n by omega]
theorem l_oddM {d : Nat} {P : Int32 → Hp → Prop} {h : Hp} {n : Nat} {a fd : Int32} {t : Nat → Int32} {g : Nat → Nat → Bool} (hn : n ≤ 10) (hm : h 32 = mo (nI n) a fd) (ht : h 33 = iA 100 t) (hT : TM t n g) (hP : P (nI (usum n g n) / 3) h) :
    ∀ (m I : Nat), I + m = n → L_X5_odd_4 (d + 2) P h 32 (nI (usum n g I)) (nI I) := by
  intro m
  induction m with
  | zero =>
    intro I hI
    refine r_X5_odd_4 ⟨nI n, gI_o (by decide) hm rfl, pk_le n I (fun c => ?_) (fun c => absurd c (by omega))⟩
    rw [show I = n by omega]; exact hP
  | succ m ih =>
    intro I hI
    refine r_X5_odd_4 ⟨nI n, gI_o (by decide) hm rfl, pk_le n I (fun c => absurd c (by omega)) (fun c => ?_)⟩
    have inner : ∀ (k E : Nat), E + k = n - 1 - I → L_X5_odd_16 (d + 2) P h 32 (nI (usum n g I + fb_sm (fun e => tog n g I (I + 1 + e)) E)) (nI I) (nI (I + 1 + E)) := by
      intro k
      induction k with
      | zero =>
        intro E hE
        refine r_X5_odd_16 ⟨nI n, gI_o (by decide) hm rfl, pk_le n (I + 1 + E) (fun c => ?_) (fun c => absurd c (by omega))⟩
        rw [nI1]
        have := ih (I + 1) (by omega)
        unfold usum at this ⊢
        rw [fb_sm_succ] at this
        rw [show E = n - 1 - I by omega]
        exact this
      | succ k ihk =>
        intro E hE
        refine r_X5_odd_16 ⟨nI n, gI_o (by decide) hm rfl, pk_le n (I + 1 + E) (fun c => absurd c (by omega)) (fun c => ?_)⟩
        refine s_togetherM hn (by omega) (by omega) (by omega) hm ht hT ?_
        rw [nI1, nI_add]
        have := ihk (E + 1) (by omega)
        rw [fb_sm_succ, ← Nat.add_assoc] at this
        exact this
    rw [nI1]
    exact inner (n - 1 - I) 0 (by omega)
theorem s_oddM {d : Nat} {P : Int32 → Hp → Prop} {h : Hp} {n : Nat} {a fd : Int32} {t : Nat → Int32} {g : Nat → Nat → Bool} (hn : n ≤ 10) (hm : h 32 = mo (nI n) a fd) (ht : h 33 = iA 100 t) (hT : TM t n g) (hP : P (nI (osum n g n / 3)) h) : CI M_X5_odd (d + 3) [.ref 32] h P := by
  refine e_X5_odd (mo_ok hm) (l_oddM hn hm ht hT ?_ n 0 (by omega))
  have e : usum n g n = osum n g n := tri_swap (tog n g) n
  rw [e, show (3 : Int32) = nI 3 from rfl, pk_div (by have := osum_le (g := g) hn hn; omega) (by decide) (by decide)]
  exact hP
