/-! ===== load ===== -/
/-- the pairs x below y that are done when the loop over columns stands at J, I -/
def tri (F : Nat → Nat → Bool) (J I : Nat) : Nat → Nat → Bool := fun x y =>
  if x < y ∧ (y < J ∨ (y = J ∧ x < I)) then F x y else if y < x ∧ (x < J ∨ (x = J ∧ y < I)) then F y x else false
theorem tri_sy (F : Nat → Nat → Bool) (J I x y : Nat) : tri F J I x y = tri F J I y x := by
  unfold tri
  by_cases a1 : x < y ∧ (y < J ∨ (y = J ∧ x < I))
  · rw [if_pos a1, if_neg (by omega), if_pos a1]
  · by_cases a2 : y < x ∧ (x < J ∨ (x = J ∧ y < I))
    · rw [if_neg a1, if_pos a2, if_pos a2]
    · rw [if_neg a1, if_neg a2, if_neg a2, if_neg a1]
theorem tri_step (F : Nat → Nat → Bool) {J I : Nat} (hIJ : I < J) (x y : Nat) : stg (tri F J I) I J (F I J) x y = tri F J (I + 1) x y := by
  unfold stg tri
  by_cases a1 : x = I ∧ y = J
  · obtain ⟨rfl, rfl⟩ := a1
    rw [if_pos (Or.inl ⟨rfl, rfl⟩), if_pos (by omega)]
  · by_cases a2 : x = J ∧ y = I
    · obtain ⟨rfl, rfl⟩ := a2
      rw [if_pos (Or.inr ⟨rfl, rfl⟩), if_neg (by omega), if_pos (by omega)]
    · rw [if_neg (by omega)]
      have e1 : (x < y ∧ (y < J ∨ (y = J ∧ x < I))) ↔ (x < y ∧ (y < J ∨ (y = J ∧ x < I + 1))) := by omega
      have e2 : (y < x ∧ (x < J ∨ (x = J ∧ y < I))) ↔ (y < x ∧ (x < J ∨ (x = J ∧ y < I + 1))) := by omega
      simp only [e1, e2]
theorem tri_next (F : Nat → Nat → Bool) {J : Nat} (x y : Nat) : tri F J J x y = tri F (J + 1) 0 x y := by
  unfold tri
  have e1 : (x < y ∧ (y < J ∨ (y = J ∧ x < J))) ↔ (x < y ∧ (y < J + 1 ∨ (y = J + 1 ∧ x < 0))) := by omega
  have e2 : (y < x ∧ (x < J ∨ (x = J ∧ y < J))) ↔ (y < x ∧ (x < J + 1 ∨ (x = J + 1 ∧ y < 0))) := by omega
  simp only [e1, e2]
theorem wf_tri (F : Nat → Nat → Bool) (n : Nat) : WF n (tri F n 0) := by
  refine ⟨tri_sy F n 0, fun x => ?_, fun x y hx => ?_⟩
  · unfold tri; rw [if_neg (by omega), if_neg (by omega)]
  · unfold tri; rw [if_neg (by omega), if_neg (by omega)]
/-- the same, where the loop goes over rows -/
def trr (F : Nat → Nat → Bool) (I J : Nat) : Nat → Nat → Bool := fun x y =>
  if x < y ∧ (x < I ∨ (x = I ∧ y < J)) then F x y else if y < x ∧ (y < I ∨ (y = I ∧ x < J)) then F y x else false
theorem trr_step (F : Nat → Nat → Bool) {I J : Nat} (hIJ : I < J) (x y : Nat) : stg (trr F I J) I J (F I J) x y = trr F I (J + 1) x y := by
  unfold stg trr
  by_cases a1 : x = I ∧ y = J
  · obtain ⟨rfl, rfl⟩ := a1
    rw [if_pos (Or.inl ⟨rfl, rfl⟩), if_pos (by omega)]
  · by_cases a2 : x = J ∧ y = I
    · obtain ⟨rfl, rfl⟩ := a2
      rw [if_pos (Or.inr ⟨rfl, rfl⟩), if_neg (by omega), if_pos (by omega)]
    · rw [if_neg (by omega)]
      have e1 : (x < y ∧ (x < I ∨ (x = I ∧ y < J))) ↔ (x < y ∧ (x < I ∨ (x = I ∧ y < J + 1))) := by omega
      have e2 : (y < x ∧ (y < I ∨ (y = I ∧ x < J))) ↔ (y < x ∧ (y < I ∨ (y = I ∧ x < J + 1))) := by omega
      simp only [e1, e2]
theorem trr_next (F : Nat → Nat → Bool) {I n x y : Nat} (hx : x < n) (hy : y < n) : trr F I n x y = trr F (I + 1) (I + 2) x y := by
  unfold trr
  have e1 : (x < y ∧ (x < I ∨ (x = I ∧ y < n))) ↔ (x < y ∧ (x < I + 1 ∨ (x = I + 1 ∧ y < I + 2))) := by omega
  have e2 : (y < x ∧ (y < I ∨ (y = I ∧ x < n))) ↔ (y < x ∧ (y < I + 1 ∨ (y = I + 1 ∧ x < I + 2))) := by omega
  simp only [e1, e2]
theorem trr_end (F : Nat → Nat → Bool) {n x y : Nat} (hx : x < n) (hy : y < n) : trr F n (n + 1) x y = tri F n 0 x y := by
  unfold trr tri
  have e1 : (x < y ∧ (x < n ∨ (x = n ∧ y < n + 1))) ↔ (x < y ∧ (y < n ∨ (y = n ∧ x < 0))) := by omega
  have e2 : (y < x ∧ (y < n ∨ (y = n ∧ x < n + 1))) ↔ (y < x ∧ (x < n ∨ (x = n ∧ y < 0))) := by omega
  simp only [e1, e2]
def lF (n : Nat) (it : Nat → Int32) : Nat → Nat → Bool := fun x y => decide (it (n * x + y) < 0)
theorem ix_lt {n i j sz : Nat} (hij : i < j) (hj : j < n) (hsz : n * (n - 1) ≤ sz) : n * i + j < sz := by
  have h1 : n * (i + 1) ≤ n * (n - 1) := Nat.mul_le_mul_left n (by omega)
  rw [Nat.mul_succ] at h1
  omega
theorem sgncases {x : Int32} {A B : Prop} (f : decide (x < 0) = false → A) (t : decide (x < 0) = true → B) : (0 ≤ x → A) ∧ (¬ 0 ≤ x → B) :=
  ⟨fun c => f (by simp [Int32.not_lt.mpr c]), fun c => t (by simp [Int32.not_le.mp c])⟩
theorem l_loadX {d : Nat} {P : Int32 → Hp → Prop} {n a s fo sz : Nat} {fd : Int32} {sh : Sh} {it : Nat → Int32} (hn : n ≤ 10) (hs : s < 4) (hsz : sz ≤ 100) (hle : n * (n - 1) ≤ sz) (ho : sh s = some (fo, sz, it)) (h0 : Hp) (hP : ∀ h', CX h' n (tri (lF n it) n 0) a fd sh → Fr CC32 h0 h' → P (nI n) h') :
    ∀ (m J : Nat) (h : Hp), J + m = n → CX h n (tri (lF n it) J 0) a fd sh → Fr CC32 h0 h → L_X4_load_66 (d + 2) P h 0 (nI n) (24 + 2 * s) (nI J) := by
  intro m
  induction m with
  | zero =>
    intro J h hJ hC hF
    refine r_X4_load_66 (pk_le n J (fun c => ?_) (fun c => absurd c (by omega)))
    rw [show J = n by omega] at hC
    exact hP h hC hF
  | succ m ih =>
    intro J h hJ hC hF
    refine r_X4_load_66 (pk_le n J (fun c => absurd c (by omega)) (fun c => ?_))
    have inner : ∀ (k I : Nat) (h : Hp), I + k = J → CX h n (tri (lF n it) J I) a fd sh → Fr CC32 h0 h → L_X4_load_75 (d + 2) P h 0 (nI n) (24 + 2 * s) (nI J) (nI I) := by
      intro k
      induction k with
      | zero =>
        intro I h hI hC hF
        refine r_X4_load_75 (pk_le J I (fun c => ?_) (fun c => absurd c (by omega)))
        rw [nI1]
        refine ih (J + 1) h (by omega) (hC.tab (hC.2.1.eq (fun x _ y _ => ?_)) Fr.rf) hF
        rw [show I = J by omega]; exact tri_next _ x y
      | succ k ihk =>
        intro I h hI hC hF
        refine r_X4_load_75 (pk_le J I (fun c => absurd c (by omega)) (fun c => ?_))
        have Y := hC.2.2.2.2.2.2 s hs
        rw [ho] at Y
        obtain ⟨e1, f, e2, e3⟩ := Y
        have hix := ix_lt (n := n) (show I < J by omega) (by omega) hle
        rw [pk_mul, nI_add]
        refine ⟨1, g0 hC, 25 + 2 * s, gR_o (by omega) e1 rfl, _, lI_o (by omega) e2 (by omega), ?_⟩
        rw [e3 _ hix]
        have fin : ∀ w wv, wv = b2i w → w = lF n it I J → CV M_X3_setMinus (d + 2) [.ref 1, .int (nI I), .int (nI J), .int wv] h (fun h4 => L_X4_load_75 (d + 2) P h4 0 (nI n) (24 + 2 * s) (nI J) (nI I + (1 : Int32))) := fun w wv hw hw2 => by
          refine s_setMinus hw hC.2.1 (by omega) (by omega) (by omega) (tri_sy _ _ _ _ _) (fun h' hT hF' => ?_)
          rw [nI1]
          subst hw2
          exact ihk (I + 1) h' (by omega) (hC.tab (hT.eq (fun x _ y _ => tri_step _ (by omega) x y)) hF') (hF.tr (hF'.mono (fun _ => T2C)))
        exact sgncases (fun q => fin false 0 rfl q.symm) (fun q => fin true 1 rfl q.symm)
    exact inner J 0 h (by omega) hC hF
theorem trr_false {F : Nat → Nat → Bool} {x y : Nat} : trr F 0 1 x y = false := by
  unfold trr
  rw [if_neg (by omega), if_neg (by omega)]
theorem l_loadM {d : Nat} {P : Int32 → Hp → Prop} {n s fo sz : Nat} {a fd : Int32} {it fi : Nat → Int32} (hn : n ≤ 10) (hs : s < 4) (hsz : sz ≤ 100) (hle : n * (n - 1) ≤ sz) (hit : ∀ i, i < sz → fi (100 * s + i) = it i) (h0 : Hp) (hP : ∀ h' t, h' 33 = iA 100 t → TM t n (tri (lF n it) n 0) → Fr M1 h0 h' → P (nI n) h') :
    ∀ (m I : Nat) (h : Hp) (t : Nat → Int32), I + m = n → h 32 = mo (nI n) a fd → h 45 = iA 400 fi → h 33 = iA 100 t → TM t n (trr (lF n it) I (I + 1)) → Fr M1 h0 h → L_X5_load_69 (d + 1) P h 32 (nI s) (nI n) (nI I) := by
  intro m
  induction m with
  | zero =>
    intro I h t hI hm h45 ht hT hF
    refine r_X5_load_69 (pk_le n I (fun c => ?_) (fun c => absurd c (by omega)))
    have : I = n := by omega
    subst this
    exact hP h t ht (hT.eq (fun x y hx hy _ => trr_end _ hx hy)) hF
  | succ m ih =>
    intro I h t hI hm h45 ht hT hF
    refine r_X5_load_69 (pk_le n I (fun c => absurd c (by omega)) (fun c => ?_))
    have inner : ∀ (k J : Nat) (h : Hp) (t : Nat → Int32), J + k = n → I < J → h 32 = mo (nI n) a fd → h 45 = iA 400 fi → h 33 = iA 100 t → TM t n (trr (lF n it) I J) → Fr M1 h0 h → L_X5_load_81 (d + 1) P h 32 (nI s) (nI n) (nI I) (nI J) := by
      intro k
      induction k with
      | zero =>
        intro J h t hJ hIJ hm h45 ht hT hF
        refine r_X5_load_81 (pk_le n J (fun c => ?_) (fun c => absurd c (by omega)))
        rw [nI1]
        have : J = n := by omega
        subst this
        exact ih (I + 1) h t (by omega) hm h45 ht (hT.eq (fun x y hx hy _ => trr_next _ hx hy)) hF
      | succ k ihk =>
        intro J h t hJ hIJ hm h45 ht hT hF
        refine r_X5_load_81 (pk_le n J (fun c => absurd c (by omega)) (fun c => ?_))
        have hix := ix_lt (n := n) hIJ (by omega) hle
        rw [pk_mul, l100, nI_add]
        refine ⟨45, gR_o (by decide) hm rfl, _, lI_o (by decide) h45 (by omega), ?_⟩
        rw [show 100 * s + n * I + J = 100 * s + (n * I + J) by omega, hit _ hix]
        have fin : ∀ v, v = pm (lF n it I J) → CV M_X5_set (d + 1) [.ref 32, .int (nI I), .int (nI J), .int v] h (fun h3 => L_X5_load_81 (d + 1) P h3 32 (nI s) (nI n) (nI I) (nI J + (1 : Int32))) := fun v hv => by
          refine s_setM hm ht (by omega) (by omega) (fun h' ht' hF' => ?_)
          rw [nI1]
          exact ihk (J + 1) h' _ (by omega) (by omega) (by rw [hF' 32 (by decide)]; exact hm) (by rw [hF' 45 (by decide)]; exact h45) ht' ((TM.set hv hn (by omega) (by omega) (by omega) hT).eq (fun x y _ _ _ => trr_step _ hIJ x y)) (hF.tr hF')
        refine sgncases (fun q => fin 1 ?_) (fun q => fin (-1) ?_)
        · show (1 : Int32) = pm (decide (it (n * I + J) < 0)); rw [q]; rfl
        · show (-1 : Int32) = pm (decide (it (n * I + J) < 0)); rw [q]; rfl
    rw [nI1]
    exact inner (n - (I + 1)) (I + 1) h t (by omega) (by omega) hm h45 ht hT hF
theorem n1 {m : Nat} : nI m * (nI m - 1) = nI (m * (m - 1)) := by
  by_cases q : m = 0
  · subst q; decide
  · rw [show (1 : Int32) = nI 1 from rfl, pk_sub (by omega), pk_mul]
theorem op_load {n a : Nat} {g : Nat → Nat → Bool} {fd : Int32} {sh : Sh} (G : Gd n g a sh) (x y : Int32) : OpI M_X4_load M_X5_load [.int x, .int y] n g a fd sh := by
  by_cases hb : isL 4 x = true ∧ isL 11 y = true
  · obtain ⟨hx, hy⟩ := hb
    obtain ⟨s, hs, rfl⟩ := isLN (by decide) hx
    obtain ⟨m, hm, rfl⟩ := isLN (by decide) hy
    have hmm : m * (m - 1) ≤ 10 * 10 := Nat.mul_le_mul (by omega) (by omega)
    cases hos : sh s with
    | none =>
      refine ⟨-10 - 1, n, g, a, 1, sh, G, fun d h P hC hP => ?_, fun d h P hM hP => ?_⟩
      · have Y := hC.2.2.2.2.2.2 s hs
        rw [hos] at Y
        obtain ⟨fo, sz, f, e1, e2⟩ := Y
        exact e_X4_load hC.ok (s_isSheetX (zb (fun c => absurd (hx.symm.trans c) (by decide)) (fun _ => s_isLcX (bz (fun _ => ⟨23, g4 hC, 24 + 2 * s, gq hC hs, 1, gI_o (by omega) e1 rfl, fun c => absurd c (by decide), fun _ => s_finding hC hP⟩) (fun c => absurd (hy.symm.trans c) (by decide))))))
      · obtain ⟨fz, ff, fs, fi, b1, b2, b3, b4, b5⟩ := hM.2.2.2
        have Y := b5 s hs
        rw [hos] at Y
        have Y : fz s = 0 := Y
        exact e_X5_load (mo_ok hM.1) (s_isSheetM (zb (fun c => absurd (hx.symm.trans c) (by decide)) (fun _ => s_inL (n := 11) (by decide) (by decide) (bz (fun _ => ⟨42, gR_o (by decide) hM.1 rfl, fz s, lZ_o (by decide) b1 hs, fun c => absurd Y c, fun _ => s_meets hM hP⟩) (fun c => absurd (hy.symm.trans c) (by decide))))))
    | some o =>
      obtain ⟨fo, sz, it⟩ := o
      obtain ⟨hfo, hsz⟩ := G.2.2.2 s hs fo sz it hos
      by_cases hle : m * (m - 1) ≤ sz
      · refine ⟨nI m, m, tri (lF m it) m 0, a, fd, sh, ⟨by omega, wf_tri _ m, G.2.2⟩, fun d h P hC hP => ?_, fun d h P hM hP => ?_⟩
        · have Y := hC.2.2.2.2.2.2 s hs
          rw [hos] at Y
          obtain ⟨e1, f, e2, e3⟩ := Y
          refine e_X4_load hC.ok (s_isSheetX (zb (fun c => absurd (hx.symm.trans c) (by decide)) (fun _ => s_isLcX (bz (fun _ => ⟨23, g4 hC, 24 + 2 * s, gq hC hs, 0, gI_o (by omega) e1 rfl, fun _ => ⟨nI sz, gI_o (by omega) e1 rfl, ?_⟩, fun c => absurd rfl c⟩) (fun c => absurd (hy.symm.trans c) (by decide))))))
          rw [n1]
          refine pk_le (m * (m - 1)) sz (fun _ => ⟨1, g0 hC, s_start hC.2.1.t0 (fun h' hT hF => ?_)⟩) (fun c => absurd c (by omega))
          by_cases q : m = 0
          · subst q
            refine r_X4_load_66 (pk_le 0 1 (fun _ => ?_) (fun c => absurd c (by omega)))
            refine hP h' (hC.tab (hT.eq (fun x _ y _ => ?_)) hF) (hF.mono (fun _ => T2C))
            unfold tri; rw [if_neg (by omega), if_neg (by omega)]
          · refine l_loadX (by omega) hs hsz hle hos h hP (m - 1) 1 h' (by omega) (hC.tab (hT.eq (fun x _ y _ => ?_)) hF) (hF.mono (fun _ => T2C))
            unfold tri; rw [if_neg (by omega), if_neg (by omega)]
        · obtain ⟨fz, ff, fs, fi, b1, b2, b3, b4, b5⟩ := hM.2.2.2
          obtain ⟨t, ht, hT⟩ := hM.2.1
          have Y := b5 s hs
          rw [hos] at Y
          have go : CI M_X5_lines (d + 19) [.ref 32, .int (nI m)] h (fun x8 h7 => L_X5_load_69 (d + 19) P h7 32 (nI s) (nI m) 0) := by
            refine s_linesM (by omega) hM.1 ht hT.1 (fun h1 t1 q1 q2 q3 q4 => ?_)
            refine l_loadM (a := nI a) (fd := fd) (fo := fo) (by omega) hs hsz hle Y.2.2.2 h1 (fun h2 t2 p1 p2 p3 => ?_) m 0 h1 t1 (by omega) q1 (by rw [q4 45 (by decide)]; exact b4) q2 (q3.eq (fun x y _ _ _ => trr_false.symm)) Fr.rf
            have hF : Fr M2 h h2 := q4.tr (p3.mono M12)
            exact hP h2 (hM.tab (by rw [p3 32 (by decide)]; exact q1) p1 p2 hF) (hF.mono (fun _ => M2C))
          refine e_X5_load (mo_ok hM.1) (s_isSheetM (zb (fun c => absurd (hx.symm.trans c) (by decide)) (fun _ => s_inL (n := 11) (by decide) (by decide) (bz (fun _ => ⟨42, gR_o (by decide) hM.1 rfl, fz s, lZ_o (by decide) b1 hs, fun _ => ⟨fun _ => go, fun _ => ⟨44, gR_o (by decide) hM.1 rfl, fs s, lI_o (by decide) b3 hs, ?_⟩⟩, fun c => absurd (Y.1.symm.trans c) (by decide)⟩) (fun c => absurd (hy.symm.trans c) (by decide))))))
          rw [Y.2.2.1, n1]
          exact pk_le (m * (m - 1)) sz (fun _ => go) (fun c => absurd c (by omega))
      · have hm1 : 1 < m := by
          rcases m with _ | _ | m
          · exact absurd (Nat.zero_le _) hle
          · exact absurd (Nat.zero_le _) hle
          · omega
        refine ⟨-10 - 2, n, g, a, 2, sh, G, fun d h P hC hP => ?_, fun d h P hM hP => ?_⟩
        · have Y := hC.2.2.2.2.2.2 s hs
          rw [hos] at Y
          obtain ⟨e1, f, e2, e3⟩ := Y
          refine e_X4_load hC.ok (s_isSheetX (zb (fun c => absurd (hx.symm.trans c) (by decide)) (fun _ => s_isLcX (bz (fun _ => ⟨23, g4 hC, 24 + 2 * s, gq hC hs, 0, gI_o (by omega) e1 rfl, fun _ => ⟨nI sz, gI_o (by omega) e1 rfl, ?_⟩, fun c => absurd rfl c⟩) (fun c => absurd (hy.symm.trans c) (by decide))))))
          rw [n1]
          exact pk_le (m * (m - 1)) sz (fun c => absurd c hle) (fun _ => s_finding hC hP)
        · obtain ⟨fz, ff, fs, fi, b1, b2, b3, b4, b5⟩ := hM.2.2.2
          have Y := b5 s hs
          rw [hos] at Y
          refine e_X5_load (mo_ok hM.1) (s_isSheetM (zb (fun c => absurd (hx.symm.trans c) (by decide)) (fun _ => s_inL (n := 11) (by decide) (by decide) (bz (fun _ => ⟨42, gR_o (by decide) hM.1 rfl, fz s, lZ_o (by decide) b1 hs, fun _ => pk_le m 1 (fun c => absurd c (by omega)) (fun _ => ⟨44, gR_o (by decide) hM.1 rfl, fs s, lI_o (by decide) b3 hs, ?_⟩), fun c => absurd (Y.1.symm.trans c) (by decide)⟩) (fun c => absurd (hy.symm.trans c) (by decide))))))
          rw [Y.2.2.1, n1]
          exact pk_le (m * (m - 1)) sz (fun c => absurd c hle) (fun _ => s_meets hM hP)
  · refine ⟨-2, n, g, a, fd, sh, G, fun d h P hC hP => ?_, fun d h P hM hP => ?_⟩
    · exact e_X4_load hC.ok (s_isSheetX (zb (fun c => hP h hC Fr.rf) (fun c => s_isLcX (bz (fun c2 => absurd ⟨c, c2⟩ hb) (fun c2 => hP h hC Fr.rf)))))
    · exact e_X5_load (mo_ok hM.1) (s_isSheetM (zb (fun c => hP h hM Fr.rf) (fun c => s_inL (n := 11) (by decide) (by decide) (bz (fun c2 => absurd ⟨c, c2⟩ hb) (fun c2 => hP h hM Fr.rf)))))
/-! ===== write ===== -/
def en (g : Nat → Nat → Bool) (i j : Nat) : Int32 := if i = j then 0 else pm (g i j)
theorem nar_en (fo : Nat) (g : Nat → Nat → Bool) (i j : Nat) : nar fo (en g i j) = en g i j := by
  unfold nar en pm
  by_cases q : i = j
  · rw [if_pos q]; split <;> (try split) <;> rfl
  · rw [if_neg q]
    cases g i j <;> (split <;> (try split) <;> rfl)
def wit (n : Nat) (g : Nat → Nat → Bool) (it : Nat → Int32) (k : Nat) : Nat → Int32 := fun p => if p < k then en g (p / n) (p % n) else it p
theorem wit_step {n I J : Nat} (hJ : J < n) (g : Nat → Nat → Bool) (it : Nat → Int32) : upd (wit n g it (n * I + J)) (n * I + J) (en g I J) = wit n g it (n * I + (J + 1)) := by
  funext p
  unfold upd wit
  by_cases q : p = n * I + J
  · subst q
    have h1 : (n * I + J) / n = I := by rw [Nat.mul_add_div (by omega), Nat.div_eq_of_lt hJ]; rfl
    have h2 : (n * I + J) % n = J := by rw [Nat.mul_add_mod, Nat.mod_eq_of_lt hJ]
    rw [if_pos rfl, if_pos (by omega), h1, h2]
  · rw [if_neg q]
    by_cases r : p < n * I + J
    · rw [if_pos r, if_pos (by omega)]
    · rw [if_neg r, if_neg (by omega)]
theorem wx_lt {n i j sz : Nat} (hi : i < n) (hj : j < n) (hsz : n * n ≤ sz) : n * i + j < sz := by
  have h1 : n * (i + 1) ≤ n * n := Nat.mul_le_mul_left n (by omega)
  rw [Nat.mul_succ] at h1
  omega
theorem shu_shu {sh : Sh} {s : Nat} {o o' : Option (Nat × Nat × (Nat → Int32))} : shu (shu sh s o) s o' = shu sh s o' := by
  funext k; unfold shu; by_cases q : k = s <;> simp [q]
theorem l_writeX {d : Nat} {P : Int32 → Hp → Prop} {n a s fo sz : Nat} {g : Nat → Nat → Bool} {fd : Int32} {sh : Sh} {it : Nat → Int32} (hn : n ≤ 10) (hs : s < 4) (hfo : fo < 3) (hsz : sz ≤ 100) (hle : n * n ≤ sz) (h0 : Hp) (hP : ∀ h', CX h' n g a fd (shu sh s (some (fo, sz, wit n g it (n * n)))) → Fr CC32 h0 h' → P (nI n * nI n) h') :
    ∀ (m I : Nat) (h : Hp), I + m = n → CX h n g a fd (shu sh s (some (fo, sz, wit n g it (n * I)))) → Fr CC32 h0 h → L_X4_write_57 (d + 2) P h 0 (24 + 2 * s) (nI n) (nI I) := by
  intro m
  induction m with
  | zero =>
    intro I h hI hC hF
    refine r_X4_write_57 (pk_le n I (fun c => ?_) (fun c => absurd c (by omega)))
    rw [show I = n by omega] at hC
    exact hP h hC hF
  | succ m ih =>
    intro I h hI hC hF
    refine r_X4_write_57 (pk_le n I (fun c => absurd c (by omega)) (fun c => ?_))
    have inner : ∀ (k J : Nat) (h : Hp), J + k = n → CX h n g a fd (shu sh s (some (fo, sz, wit n g it (n * I + J)))) → Fr CC32 h0 h → L_X4_write_66 (d + 2) P h 0 (24 + 2 * s) (nI n) (nI I) (nI J) := by
      intro k
      induction k with
      | zero =>
        intro J h hJ hC hF
        refine r_X4_write_66 (pk_le n J (fun c => ?_) (fun c => absurd c (by omega)))
        rw [nI1]
        refine ih (I + 1) h (by omega) ?_ hF
        rw [Nat.mul_succ]
        rw [show J = n by omega] at hC
        exact hC
      | succ k ihk =>
        intro J h hJ hC hF
        refine r_X4_write_66 (pk_le n J (fun c => absurd c (by omega)) (fun c => ⟨1, g0 hC, s_entry hC.2.1 (by omega) (by omega) ?_⟩))
        have Y := hC.2.2.2.2.2.2 s hs
        rw [show shu sh s (some (fo, sz, wit n g it (n * I + J))) s = some (fo, sz, wit n g it (n * I + J)) by unfold shu; simp] at Y
        rw [pk_mul, nI_add]
        refine s_setItem hs hfo hsz (wx_lt (by omega) (by omega) hle) Y (fun h' Y' hF' => ?_)
        rw [nI1]
        have e : nar fo (if I = J then 0 else pm (g I J)) = en g I J := nar_en fo g I J
        rw [e, wit_step (by omega)] at Y'
        have hC' := hC.sheet hs hF' Y'
        rw [shu_shu] at hC'
        exact ihk (J + 1) h' (by omega) hC' (hF.tr (hF'.mono (fun k => S2C hs)))
    exact inner n 0 h (by omega) hC hF
theorem l_writeM {d : Nat} {P : Int32 → Hp → Prop} {n s sz : Nat} {a fd : Int32} {g : Nat → Nat → Bool} {t it fi0 : Nat → Int32} (hn : n ≤ 10) (hs : s < 4) (hsz : sz ≤ 100) (hle : n * n ≤ sz) (hT : TM t n g) (h0 : Hp) (hP : ∀ h' fi, h' 45 = iA 400 fi → (∀ i, i < sz → fi (100 * s + i) = wit n g it (n * n) i) → (∀ k, (k < 100 * s ∨ 100 * s + 100 ≤ k) → fi k = fi0 k) → Fr (fun k => k = 45) h0 h' → P (nI n * nI n) h') :
    ∀ (m I : Nat) (h : Hp) (fi : Nat → Int32), I + m = n → h 32 = mo (nI n) a fd → h 33 = iA 100 t → h 45 = iA 400 fi → (∀ i, i < sz → fi (100 * s + i) = wit n g it (n * I) i) → (∀ k, (k < 100 * s ∨ 100 * s + 100 ≤ k) → fi k = fi0 k) → Fr (fun k => k = 45) h0 h → L_X5_write_51 d P h 32 (nI s) (nI I) := by
  intro m
  induction m with
  | zero =>
    intro I h fi hI hm ht h45 e1 e2 hF
    refine r_X5_write_51 ⟨nI n, gI_o (by decide) hm rfl, pk_le n I (fun c => ⟨nI n, gI_o (by decide) hm rfl, nI n, gI_o (by decide) hm rfl, ?_⟩) (fun c => absurd c (by omega))⟩
    rw [show I = n by omega] at e1
    exact hP h fi h45 e1 e2 hF
  | succ m ih =>
    intro I h fi hI hm ht h45 e1 e2 hF
    refine r_X5_write_51 ⟨nI n, gI_o (by decide) hm rfl, pk_le n I (fun c => absurd c (by omega)) (fun c => ?_)⟩
    have inner : ∀ (k J : Nat) (h : Hp) (fi : Nat → Int32), J + k = n → h 32 = mo (nI n) a fd → h 33 = iA 100 t → h 45 = iA 400 fi → (∀ i, i < sz → fi (100 * s + i) = wit n g it (n * I + J) i) → (∀ k, (k < 100 * s ∨ 100 * s + 100 ≤ k) → fi k = fi0 k) → Fr (fun k => k = 45) h0 h → L_X5_write_61 d P h 32 (nI s) (nI I) (nI J) := by
      intro k
      induction k with
      | zero =>
        intro J h fi hJ hm ht h45 e1 e2 hF
        refine r_X5_write_61 ⟨nI n, gI_o (by decide) hm rfl, pk_le n J (fun c => ?_) (fun c => absurd c (by omega))⟩
        rw [nI1]
        refine ih (I + 1) h fi (by omega) hm ht h45 ?_ e2 hF
        rw [Nat.mul_succ]
        rw [show J = n by omega] at e1
        exact e1
      | succ k ihk =>
        intro J h fi hJ hm ht h45 e1 e2 hF
        refine r_X5_write_61 ⟨nI n, gI_o (by decide) hm rfl, pk_le n J (fun c => absurd c (by omega)) (fun c => ?_)⟩
        have hix := wx_lt (show I < n by omega) (show J < n by omega) hle
        refine ⟨45, gR_o (by decide) hm rfl, nI n, gI_o (by decide) hm rfl, ?_⟩
        rw [l10, pk_mul, l100, nI_add]
        refine ⟨33, gR_o (by decide) hm rfl, _, lI_o (by decide) ht (by omega), _, sI_o (by decide) h45 (by omega), ?_⟩
        have ev : t (10 * I + J) = en g I J := by
          unfold en
          by_cases q : I = J
          · subst q
            rw [if_pos rfl, show 10 * I + I = 11 * I by omega]
            exact hT.1 I (by omega)
          · rw [if_neg q]; exact hT.2 I J (by omega) (by omega) q
        rw [ev, nI1]
        refine ihk (J + 1) _ _ (by omega) (by rw [hu_n (by decide)]; exact hm) (by rw [hu_n (by decide)]; exact ht) hu_s (fun i hi => ?_) (fun q hq => ?_) (hF.tr (Fr.hu (S := fun k => k = 45) rfl))
        · rw [← wit_step (show J < n by omega)]
          unfold upd
          by_cases q : i = n * I + J
          · rw [if_pos (by omega), if_pos q]
          · rw [if_neg (by omega), if_neg q]; exact e1 i hi
        · rw [pk_un (by omega)]; exact e2 q hq
    exact inner n 0 h fi (by omega) hm ht h45 e1 e2 hF
theorem op_write {n a : Nat} {g : Nat → Nat → Bool} {fd : Int32} {sh : Sh} (G : Gd n g a sh) (x : Int32) : OpI M_X4_write M_X5_write [.int x] n g a fd sh := by
  have hn := G.1
  have hnn : n * n ≤ 10 * 10 := Nat.mul_le_mul hn hn
  cases hx : isL 4 x
  · refine ⟨-2, n, g, a, fd, sh, G, fun d h P hC hP => ?_, fun d h P hM hP => ?_⟩
    · exact e_X4_write hC.ok (s_isSheetX (bz (fun c => absurd (hx.symm.trans c) (by decide)) (fun _ => hP h hC Fr.rf)))
    · exact e_X5_write (mo_ok hM.1) (s_isSheetM (bz (fun c => absurd (hx.symm.trans c) (by decide)) (fun _ => hP h hM Fr.rf)))
  · obtain ⟨s, hs, rfl⟩ := isLN (by decide) hx
    cases hos : sh s with
    | none =>
      refine ⟨-10 - 1, n, g, a, 1, sh, G, fun d h P hC hP => ?_, fun d h P hM hP => ?_⟩
      · have Y := hC.2.2.2.2.2.2 s hs
        rw [hos] at Y
        obtain ⟨fo, sz, f, e1, e2⟩ := Y
        exact e_X4_write hC.ok (s_isSheetX (bz (fun _ => ⟨23, g4 hC, 24 + 2 * s, gq hC hs, 1, g0 hC, nI n, gsz hC, 1, gI_o (by omega) e1 rfl, fun c => absurd c (by decide), fun _ => s_finding hC hP⟩) (fun c => absurd (hx.symm.trans c) (by decide))))
      · obtain ⟨fz, ff, fs, fi, b1, b2, b3, b4, b5⟩ := hM.2.2.2
        have Y := b5 s hs
        rw [hos] at Y
        have Y : fz s = 0 := Y
        exact e_X5_write (mo_ok hM.1) (s_isSheetM (bz (fun _ => ⟨42, gR_o (by decide) hM.1 rfl, fz s, lZ_o (by decide) b1 hs, fun c => absurd Y c, fun _ => s_meets hM hP⟩) (fun c => absurd (hx.symm.trans c) (by decide))))
    | some o =>
      obtain ⟨fo, sz, it⟩ := o
      obtain ⟨hfo, hsz⟩ := G.2.2.2 s hs fo sz it hos
      by_cases hle : n * n ≤ sz
      · refine ⟨nI n * nI n, n, g, a, fd, shu sh s (some (fo, sz, wit n g it (n * n))), gd_sh G (fun _ _ _ e => by cases e; exact ⟨hfo, hsz⟩), fun d h P hC hP => ?_, fun d h P hM hP => ?_⟩
        · have Y := hC.2.2.2.2.2.2 s hs
          rw [hos] at Y
          have Y0 := Y
          obtain ⟨e1, f, e2, e3⟩ := Y
          refine e_X4_write hC.ok (s_isSheetX (bz (fun _ => ⟨23, g4 hC, 24 + 2 * s, gq hC hs, 1, g0 hC, nI n, gsz hC, 0, gI_o (by omega) e1 rfl, fun _ => ⟨nI sz, gI_o (by omega) e1 rfl, ?_⟩, fun c => absurd rfl c⟩) (fun c => absurd (hx.symm.trans c) (by decide))))
          have e9 : wit n g it (n * 0) = it := by funext p; unfold wit; rw [if_neg (by omega)]
          have hC' : CX h n g a fd (shu sh s (some (fo, sz, wit n g it (n * 0)))) := by
            rw [e9]; exact hC.sheet hs Fr.rf Y0
          have L := l_writeX (d := d + 17) (P := P) hn hs hfo hsz hle h hP n 0 h (by omega) hC' Fr.rf
          have key := pk_le (x := nI n * nI n) (y := nI sz) (A := L_X4_write_57 (d + 19) P h 0 (24 + 2 * s) (nI n) 0) (B := CI M_X4_findingOf (d + 19) [.ref 0, .int 2] h (fun x10 h9 => P x10 h9)) (n * n) sz (fun _ => L) (fun c => absurd c (by omega)) (pk_mul n n)
          exact key
        · obtain ⟨fz, ff, fs, fi, b1, b2, b3, b4, b5⟩ := hM.2.2.2
          obtain ⟨t, ht, hT⟩ := hM.2.1
          have Y := b5 s hs
          rw [hos] at Y
          refine e_X5_write (mo_ok hM.1) (s_isSheetM (bz (fun _ => ⟨42, gR_o (by decide) hM.1 rfl, fz s, lZ_o (by decide) b1 hs, fun _ => ⟨44, gR_o (by decide) hM.1 rfl, fs s, lI_o (by decide) b3 hs, nI n, m0 hM, nI n, m0 hM, ?_⟩, fun c => absurd (Y.1.symm.trans c) (by decide)⟩) (fun c => absurd (hx.symm.trans c) (by decide))))
          rw [Y.2.2.1]
          refine pk_le (n * n) sz (fun _ => ?_) (fun c => absurd c (by omega)) (pk_mul n n)
          refine l_writeM (a := nI a) (fd := fd) (it := it) (fi0 := fi) hn hs hsz hle hT h (fun h' fi' q1 q2 q3 q4 => ?_) n 0 h fi (by omega) hM.1 ht b4 (fun i hi => ?_) (fun _ _ => rfl) Fr.rf
          · have rest : ∀ k, k ≠ 45 → h' k = h k := fun k k1 => q4 k k1
            exact hP h' (hM.items hs hos G b4 q1 (fun k _ _ k3 => rest k k3) (by rw [rest 46 (by decide)]; exact hM.2.2.1.2.2.2.2.2.2.2.2) q2 q3) (fun k hk => rest k (fun e => hk (by omega)))
          · unfold wit; rw [if_neg (by omega)]; exact Y.2.2.2 i hi
      · refine ⟨-10 - 2, n, g, a, 2, sh, G, fun d h P hC hP => ?_, fun d h P hM hP => ?_⟩
        · have Y := hC.2.2.2.2.2.2 s hs
          rw [hos] at Y
          obtain ⟨e1, f, e2, e3⟩ := Y
          refine e_X4_write hC.ok (s_isSheetX (bz (fun _ => ⟨23, g4 hC, 24 + 2 * s, gq hC hs, 1, g0 hC, nI n, gsz hC, 0, gI_o (by omega) e1 rfl, fun _ => ⟨nI sz, gI_o (by omega) e1 rfl, ?_⟩, fun c => absurd rfl c⟩) (fun c => absurd (hx.symm.trans c) (by decide))))
          exact pk_le (n * n) sz (fun c => absurd c hle) (fun _ => s_finding hC hP) (pk_mul n n)
        · obtain ⟨fz, ff, fs, fi, b1, b2, b3, b4, b5⟩ := hM.2.2.2
          have Y := b5 s hs
          rw [hos] at Y
          refine e_X5_write (mo_ok hM.1) (s_isSheetM (bz (fun _ => ⟨42, gR_o (by decide) hM.1 rfl, fz s, lZ_o (by decide) b1 hs, fun _ => ⟨44, gR_o (by decide) hM.1 rfl, fs s, lI_o (by decide) b3 hs, nI n, m0 hM, nI n, m0 hM, ?_⟩, fun c => absurd (Y.1.symm.trans c) (by decide)⟩) (fun c => absurd (hx.symm.trans c) (by decide))))
          rw [Y.2.2.1]
          exact pk_le (n * n) sz (fun c => absurd c hle) (fun _ => s_meets hM hP) (pk_mul n n)
