/-! ===== count, digest ===== -/
def nsum (g : Nat → Nat → Bool) (n : Nat) : Nat := fb_sm (fun i => fb_ct (g i) i) n
theorem rsum_eq {n : Nat} {g : Nat → Nat → Bool} (hn : n ≤ 10) (hg : WF n g) : rsum g n = 2 * nsum g n := by
  have h1 : rsum g n = fb_sm (fun i => fb_ct (g i) n) n := by
    unfold rsum
    refine fb_sm_cong (fun i hi => ?_)
    have : ∀ k, k < 32 → g i k = (decide (k < n) && g i k) := fun k _ => by
      by_cases q : k < n
      · simp [q]
      · rw [hg.r (by omega)]; simp
    rw [fb_ct_cong this, ct_mask (by omega)]
  have h2 : ∀ m, fb_sm (fun i => fb_ct (g i) m) m = 2 * fb_sm (fun i => fb_ct (g i) i) m := by
    intro m
    induction m with
    | zero => rfl
    | succ m ih =>
      rw [fb_sm_succ, fb_sm_succ]
      have e1 : fb_sm (fun i => fb_ct (g i) (m + 1)) m = fb_sm (fun i => fb_ct (g i) m) m + fb_ct (g m) m := by
        have : fb_sm (fun i => fb_ct (g i) (m + 1)) m = fb_sm (fun i => fb_ct (g i) m + (if g i m then 1 else 0)) m := fb_sm_cong (fun i _ => fb_ct_succ _ _)
        rw [this, fb_sm_add]
        congr 1
        have : ∀ k, fb_sm (fun i => if g i m then 1 else 0) k = fb_ct (g m) k := by
          intro k
          induction k with
          | zero => rfl
          | succ k ihk => rw [fb_sm_succ, ihk, fb_ct_succ, hg.1 k m]
        exact this m
      have e2 : fb_ct (g m) (m + 1) = fb_ct (g m) m := by rw [fb_ct_succ, hg.2.1]; simp
      rw [e1, e2, ih]
      omega
  rw [h1, h2 n]
  rfl
theorem nsum_le {g : Nat → Nat → Bool} {n m : Nat} (hn : n ≤ 10) (hm : m ≤ n) : nsum g m ≤ 100 := by
  have := fb_sm_bound (f := fun i => fb_ct (g i) i) (c := 10) (n := m) (fun i hi => Nat.le_trans (fb_ct_le _ i) (by omega))
  unfold nsum
  omega
theorem l_countM {d : Nat} {P : Int32 → Hp → Prop} {h : Hp} {n : Nat} {a fd : Int32} {t : Nat → Int32} {g : Nat → Nat → Bool} (hn : n ≤ 10) (hm : h 32 = mo (nI n) a fd) (ht : h 33 = iA 100 t) (hT : TM t n g) (hP : P (nI (nsum g n)) h) :
    ∀ (m I : Nat), I + m = n → L_X5_count_44 d P h 32 (nI (nsum g I)) (nI I) := by
  intro m
  induction m with
  | zero =>
    intro I hI
    refine r_X5_count_44 ⟨nI n, gI_o (by decide) hm rfl, pk_le n I (fun c => ?_) (fun c => absurd c (by omega))⟩
    rw [show I = n by omega]; exact hP
  | succ m ih =>
    intro I hI
    refine r_X5_count_44 ⟨nI n, gI_o (by decide) hm rfl, pk_le n I (fun c => absurd c (by omega)) (fun c => ?_)⟩
    have inner : ∀ (k J : Nat), J + k = I → L_X5_count_55 d P h 32 (nI (nsum g I + fb_ct (g I) J)) (nI I) (nI J) := by
      intro k
      induction k with
      | zero =>
        intro J hJ
        refine r_X5_count_55 (pk_le I J (fun c => ?_) (fun c => absurd c (by omega)))
        rw [nI1]
        have := ih (I + 1) (by omega)
        unfold nsum at this ⊢
        rw [fb_sm_succ] at this
        rw [show J = I by omega]
        exact this
      | succ k ihk =>
        intro J hJ
        refine r_X5_count_55 (pk_le I J (fun c => absurd c (by omega)) (fun c => ?_))
        rw [l10]
        refine ⟨33, gR_o (by decide) hm rfl, _, lI_o (by decide) ht (by omega), ?_⟩
        rw [hT.2 I J (by omega) (by omega) (by omega), pm_ge, nI0, nI1, nI1]
        have nx := ihk (J + 1) (by omega)
        rw [fb_ct_succ, ← Nat.add_assoc] at nx
        cases hb : g I J
        · rw [hb] at nx; exact ⟨fun _ => nx, fun c => absurd rfl c⟩
        · rw [hb] at nx; exact ⟨fun c => absurd c (by decide), fun _ => nx⟩
    exact inner I 0 (by omega)
theorem gfd {h : Hp} {n a : Nat} {g : Nat → Nat → Bool} {fd : Int32} {sh : Sh} (x : CX h n g a fd sh) : gI h 4 0 6 = some fd := gI_o (by decide) x.1 rfl
theorem mfd {h : Hp} {n a : Nat} {g : Nat → Nat → Bool} {fd : Int32} {sh : Sh} (x : MX h n g a fd sh) : gI h 5 32 16 = some fd := gI_o (by decide) x.1 rfl
theorem nne {a b : Nat} (h : a ≠ b) (ha : a < 2 ^ 31 := by omega) (hb : b < 2 ^ 31 := by omega) : ¬ nI a = nI b := fun q => h ((nI_eq ha hb).mp q)
theorem nout {k n : Nat} (hk : k < n) (hn : n < 2 ^ 31) : ¬ (nI k < 0 ∨ nI n ≤ nI k) := by
  rintro (q | q)
  · exact nI_pos (by omega) q
  · exact nI_ge hk hn q
/-- what count answers -/
def cnt (n : Nat) (g : Nat → Nat → Bool) (a : Nat) (fd : Int32) (k : Nat) : Int32 := if k = 0 then nI n else if k = 1 then nI a else if k = 2 then nI (nsum g n) else fd
theorem s_countX {d : Nat} {P : Int32 → Hp → Prop} {h : Hp} {n a k : Nat} {g : Nat → Nat → Bool} {fd : Int32} {sh : Sh} (G : Gd n g a sh) (hC : CX h n g a fd sh) (hk : k < 4) (hP : P (cnt n g a fd k) h) : CI M_X4_count (d + 3) [.ref 0, .int (nI k)] h P := by
  refine e_X4_count hC.ok ⟨fun c => ?_, fun c => ?_, fun c => ?_, fun c => ?_, fun c => absurd c (nout hk (by decide))⟩
  · have : k = 0 := (nI_eq (by omega) (by decide)).mp c
    subst this; exact ⟨1, g0 hC, nI n, gsz hC, hP⟩
  · have : k = 1 := (nI_eq (by omega) (by decide)).mp c
    subst this; exact ⟨nI a, gan hC, hP⟩
  · have : k = 2 := (nI_eq (by omega) (by decide)).mp c
    subst this
    refine ⟨1, g0 hC, s_minusSigns G.1 hC.2.1 ?_⟩
    rw [rsum_eq G.1 G.2.1, Nat.mul_div_cancel_left _ (by decide)]; exact hP
  · have : k = 3 := (nI_eq (by omega) (by decide)).mp c
    subst this; exact ⟨fd, gfd hC, hP⟩
theorem s_countM {d : Nat} {P : Int32 → Hp → Prop} {h : Hp} {n a k : Nat} {g : Nat → Nat → Bool} {fd : Int32} {sh : Sh} (G : Gd n g a sh) (hM : MX h n g a fd sh) (hk : k < 4) (hP : P (cnt n g a fd k) h) : CI M_X5_count (d + 3) [.ref 32, .int (nI k)] h P := by
  obtain ⟨t, ht, hT⟩ := hM.2.1
  refine e_X5_count (mo_ok hM.1) ⟨fun c => ?_, fun c => ?_, fun c => ?_, fun c => ?_, fun c => absurd c (nout hk (by decide))⟩
  · have : k = 0 := (nI_eq (by omega) (by decide)).mp c
    subst this; exact ⟨nI n, m0 hM, hP⟩
  · have : k = 1 := (nI_eq (by omega) (by decide)).mp c
    subst this; exact ⟨nI a, man hM, hP⟩
  · have : k = 2 := (nI_eq (by omega) (by decide)).mp c
    subst this
    exact l_countM G.1 hM.1 ht hT hP n 0 (by omega)
  · have : k = 3 := (nI_eq (by omega) (by decide)).mp c
    subst this; exact ⟨fd, mfd hM, hP⟩
theorem op_count {n a : Nat} {g : Nat → Nat → Bool} {fd : Int32} {sh : Sh} (G : Gd n g a sh) (x : Int32) : OpI M_X4_count M_X5_count [.int x] n g a fd sh := by
  rcases pk_ix x (n := 4) (by decide) with q | q | ⟨k, hk, rfl⟩
  · have hx : ∀ k, k < 4 → ¬ x = nI k := fun k hk e => nI_pos (n := k) (by omega) (e ▸ q)
    refine ⟨-2, n, g, a, fd, sh, G, fun d h P hC hP => ?_, fun d h P hM hP => ?_⟩
    · exact e_X4_count hC.ok ⟨fun c => absurd c (hx 0 (by decide)), fun c => absurd c (hx 1 (by decide)), fun c => absurd c (hx 2 (by decide)), fun c => absurd c (hx 3 (by decide)), fun _ => hP h hC Fr.rf⟩
    · exact e_X5_count (mo_ok hM.1) ⟨fun c => absurd c (hx 0 (by decide)), fun c => absurd c (hx 1 (by decide)), fun c => absurd c (hx 2 (by decide)), fun c => absurd c (hx 3 (by decide)), fun _ => hP h hM Fr.rf⟩
  · have hx : ∀ k, k < 4 → ¬ x = nI k := fun k hk e => nI_ge hk (by decide) (e ▸ q)
    refine ⟨-2, n, g, a, fd, sh, G, fun d h P hC hP => ?_, fun d h P hM hP => ?_⟩
    · exact e_X4_count hC.ok ⟨fun c => absurd c (hx 0 (by decide)), fun c => absurd c (hx 1 (by decide)), fun c => absurd c (hx 2 (by decide)), fun c => absurd c (hx 3 (by decide)), fun _ => hP h hC Fr.rf⟩
    · exact e_X5_count (mo_ok hM.1) ⟨fun c => absurd c (hx 0 (by decide)), fun c => absurd c (hx 1 (by decide)), fun c => absurd c (hx 2 (by decide)), fun c => absurd c (hx 3 (by decide)), fun _ => hP h hM Fr.rf⟩
  · exact ⟨cnt n g a fd k, n, g, a, fd, sh, G, fun d h P hC hP => s_countX G hC hk (hP h hC Fr.rf), fun d h P hM hP => s_countM G hM hk (hP h hM Fr.rf)⟩
/-- the digest's fold over rows and columns -/
def dgc (n : Nat) (g : Nat → Nat → Bool) (I : Nat) (l : Int64) : Nat → Int64
  | 0 => l
  | J + 1 => 31 * dgc n g I l J + (if I = J then 0 else pm (g I J)).toInt64
def dgr (n : Nat) (g : Nat → Nat → Bool) (l : Int64) : Nat → Int64
  | 0 => l
  | I + 1 => dgc n g I (dgr n g l I) n
def dg0 (n : Nat) (g : Nat → Nat → Bool) (a : Nat) (fd : Int32) : Nat → Int64
  | 0 => 17
  | k + 1 => 31 * dg0 n g a fd k + (cnt n g a fd k).toInt64
theorem s_digX {d : Nat} {P : Int64 → Hp → Prop} {h : Hp} {n a : Nat} {g : Nat → Nat → Bool} {fd : Int32} {sh : Sh} (G : Gd n g a sh) (hC : CX h n g a fd sh) (hP : P (31 * dgr n g (dg0 n g a fd 3) n + (nI (osum n g n / 3)).toInt64) h) : CJ M_X4_digest (d + 5) [.ref 0] h P := by
  have hn := G.1
  have rows : ∀ (m I : Nat), I + m = n → L_X4_digest_32 (d + 4) P h 0 (dgr n g (dg0 n g a fd 3) I) (nI I) := by
    intro m
    induction m with
    | zero =>
      intro I hI
      refine r_X4_digest_32 ⟨1, g0 hC, nI n, gsz hC, pk_le n I (fun c => ?_) (fun c => absurd c (by omega))⟩
      refine s_oddX hn hC ?_
      rw [show I = n by omega]; exact hP
    | succ m ih =>
      intro I hI
      refine r_X4_digest_32 ⟨1, g0 hC, nI n, gsz hC, pk_le n I (fun c => absurd c (by omega)) (fun c => ?_)⟩
      have inner : ∀ (k J : Nat), J + k = n → L_X4_digest_46 (d + 4) P h 0 (dgc n g I (dgr n g (dg0 n g a fd 3) I) J) (nI I) (nI J) := by
        intro k
        induction k with
        | zero =>
          intro J hJ
          refine r_X4_digest_46 ⟨1, g0 hC, nI n, gsz hC, pk_le n J (fun c => ?_) (fun c => absurd c (by omega))⟩
          rw [nI1, show J = n by omega]
          exact ih (I + 1) (by omega)
        | succ k ihk =>
          intro J hJ
          refine r_X4_digest_46 ⟨1, g0 hC, nI n, gsz hC, pk_le n J (fun c => absurd c (by omega)) (fun c => ⟨1, g0 hC, s_entry hC.2.1 (by omega) (by omega) ?_⟩)⟩
          rw [nI1]
          exact ihk (J + 1) (by omega)
      exact inner n 0 (by omega)
  have l3 : L_X4_digest_6 (d + 4) P h 0 (dg0 n g a fd 3) (nI 3) := r_X4_digest_6 (pk_lt 2 3 (fun _ => rows n 0 (by omega)) (fun c => absurd c (by omega)))
  have l2 : L_X4_digest_6 (d + 4) P h 0 (dg0 n g a fd 2) (nI 2) := r_X4_digest_6 (pk_lt 2 2 (fun c => absurd c (by omega)) (fun _ => s_countX (k := 2) G hC (by decide) l3))
  have l1 : L_X4_digest_6 (d + 4) P h 0 (dg0 n g a fd 1) (nI 1) := r_X4_digest_6 (pk_lt 2 1 (fun c => absurd c (by omega)) (fun _ => s_countX (k := 1) G hC (by decide) l2))
  exact e_X4_digest hC.ok (r_X4_digest_6 (pk_lt 2 0 (fun c => absurd c (by omega)) (fun _ => s_countX (k := 0) G hC (by decide) l1)))
theorem s_digM {d : Nat} {P : Int64 → Hp → Prop} {h : Hp} {n a : Nat} {g : Nat → Nat → Bool} {fd : Int32} {sh : Sh} (G : Gd n g a sh) (hM : MX h n g a fd sh) (hP : P (31 * dgr n g (dg0 n g a fd 3) n + (nI (osum n g n / 3)).toInt64) h) : CJ M_X5_digest (d + 5) [.ref 32] h P := by
  have hn := G.1
  obtain ⟨t, ht, hT⟩ := hM.2.1
  have rows : ∀ (m I : Nat), I + m = n → L_X5_digest_32 (d + 4) P h 32 (dgr n g (dg0 n g a fd 3) I) (nI I) := by
    intro m
    induction m with
    | zero =>
      intro I hI
      refine r_X5_digest_32 ⟨nI n, m0 hM, pk_le n I (fun c => ?_) (fun c => absurd c (by omega))⟩
      refine s_oddM hn hM.1 ht hT ?_
      rw [show I = n by omega]; exact hP
    | succ m ih =>
      intro I hI
      refine r_X5_digest_32 ⟨nI n, m0 hM, pk_le n I (fun c => absurd c (by omega)) (fun c => ?_)⟩
      have inner : ∀ (k J : Nat), J + k = n → L_X5_digest_43 (d + 4) P h 32 (dgc n g I (dgr n g (dg0 n g a fd 3) I) J) (nI I) (nI J) := by
        intro k
        induction k with
        | zero =>
          intro J hJ
          refine r_X5_digest_43 ⟨nI n, m0 hM, pk_le n J (fun c => ?_) (fun c => absurd c (by omega))⟩
          rw [nI1, show J = n by omega]
          exact ih (I + 1) (by omega)
        | succ k ihk =>
          intro J hJ
          refine r_X5_digest_43 ⟨nI n, m0 hM, pk_le n J (fun c => absurd c (by omega)) (fun c => ?_)⟩
          rw [l10]
          refine ⟨33, m1 hM, _, lI_o (by decide) ht (by omega), ?_⟩
          have e : t (10 * I + J) = if I = J then 0 else pm (g I J) := by
            by_cases q : I = J
            · subst q
              rw [if_pos rfl, show 10 * I + I = 11 * I by omega]
              exact hT.1 I (by omega)
            · rw [if_neg q]; exact hT.2 I J (by omega) (by omega) q
          rw [e, nI1]
          exact ihk (J + 1) (by omega)
      exact inner n 0 (by omega)
  have l3 : L_X5_digest_6 (d + 4) P h 32 (dg0 n g a fd 3) (nI 3) := r_X5_digest_6 (pk_le 3 3 (fun _ => rows n 0 (by omega)) (fun c => absurd c (by omega)))
  have l2 : L_X5_digest_6 (d + 4) P h 32 (dg0 n g a fd 2) (nI 2) := r_X5_digest_6 (pk_le 3 2 (fun c => absurd c (by omega)) (fun _ => s_countM (k := 2) G hM (by decide) l3))
  have l1 : L_X5_digest_6 (d + 4) P h 32 (dg0 n g a fd 1) (nI 1) := r_X5_digest_6 (pk_le 3 1 (fun c => absurd c (by omega)) (fun _ => s_countM (k := 1) G hM (by decide) l2))
  exact e_X5_digest (mo_ok hM.1) (r_X5_digest_6 (pk_le 3 0 (fun c => absurd c (by omega)) (fun _ => s_countM (k := 0) G hM (by decide) l1)))
theorem op_digest {n a : Nat} {g : Nat → Nat → Bool} {fd : Int32} {sh : Sh} (G : Gd n g a sh) : OpJ M_X4_digest M_X5_digest [] n g a fd sh :=
  ⟨_, n, g, a, fd, sh, G, fun d h P hC hP => s_digX G hC (hP h hC Fr.rf), fun d h P hM hP => s_digM G hM (hP h hM Fr.rf)⟩
