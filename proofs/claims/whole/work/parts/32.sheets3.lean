/-! ===== copy ===== -/
def okc (x y : Int32) (sz : Nat) : Prop := ∃ i m, x = nI i ∧ y = nI m ∧ i + m ≤ sz
theorem s_hasItems {d : Nat} {P : Int32 → Hp → Prop} {h : Hp} {s fo sz : Nat} {it : Nat → Int32} {x y : Int32} (hs : s < 4) (hsz : sz ≤ 100) (Y : SHs h s (some (fo, sz, it))) (hT : okc x y sz → P 1 h) (hF : ¬ okc x y sz → P 0 h) : CI M_X1_hasItems (d + 1) [.ref (24 + 2 * s), .int x, .int y] h P := by
  obtain ⟨e1, f, e2, e3⟩ := Y
  refine e_X1_hasItems ⟨by omega, _, e1⟩ ⟨fun c => hF ?_, fun c => ⟨fun c2 => hF ?_, fun c2 => ⟨nI sz, gI_o (by omega) e1 rfl, ?_⟩⟩⟩
  · rintro ⟨i, m, rfl, rfl, hle⟩
    exact nI_pos (by omega) c
  · rintro ⟨i, m, rfl, rfl, hle⟩
    exact nI_pos (by omega) c2
  · obtain ⟨i, hi, rfl⟩ := nI_of c
    obtain ⟨m, hm, rfl⟩ := nI_of c2
    refine pk_lt sz m (fun q => hF ?_) (fun q => ⟨nI sz, gI_o (by omega) e1 rfl, ?_⟩)
    · rintro ⟨i', m', h1, h2, hle⟩
      have : m = m' := (nI_eq hm (by omega)).mp h2
      omega
    · rw [pk_sub q]
      refine pk_lt (sz - m) i (fun q2 => hF ?_) (fun q2 => hT ⟨i, m, rfl, rfl, by omega⟩)
      rintro ⟨i', m', h1, h2, hle⟩
      have e4 : m = m' := (nI_eq hm (by omega)).mp h2
      have e5 : i = i' := (nI_eq hi (by omega)).mp h1
      omega
theorem lcmp_gt {a b : Nat} (ha : a < 2 ^ 63) (hb : b < 2 ^ 63) : 0 < lcmp (lN a) (lN b) ↔ b < a := by
  unfold lcmp lg_cmp
  by_cases q : lN a > lN b
  · rw [if_pos q]
    exact ⟨fun _ => (pk_lLT hb ha).mp q, fun _ => by decide⟩
  · rw [if_neg q]
    have q' : ¬ b < a := fun r => q ((pk_lLT hb ha).mpr r)
    by_cases q2 : lN a = lN b
    · rw [if_pos q2]; exact ⟨fun c => absurd c (by decide), fun c => absurd c q'⟩
    · rw [if_neg q2]; exact ⟨fun c => absurd c (by decide), fun c => absurd c q'⟩
theorem lcmp_le {a b : Nat} (ha : a < 2 ^ 63) (hb : b < 2 ^ 63) : lcmp (lN a) (lN b) ≤ 0 ↔ a ≤ b := by
  have h1 := lcmp_gt ha hb
  rw [← Int32.not_lt, h1]
  omega
def cpf (f g : Nat → Int32) (i j m : Nat) : Nat → Int32 := va_cpy f g i j m
theorem l_copy1 {d : Nat} {P : Int32 → Hp → Prop} {s i t j m : Nat} {n a fd : Int32} {fi : Nat → Int32} (hs : s < 4) (hm : i + m ≤ 100) (h0 : Hp) (hP : ∀ h' z, h' 46 = iA 100 z → (∀ k, k < m → z k = fi (100 * s + i + k)) → Fr (fun k => k = 46) h0 h' → L_X5_copy_157 d P h' 32 (nI t) (nI j) (nI m) 0) :
    ∀ (e k : Nat) (h : Hp) (z : Nat → Int32), k + e = m → h 32 = mo n a fd → h 45 = iA 400 fi → h 46 = iA 100 z → (∀ q, q < k → z q = fi (100 * s + i + q)) → Fr (fun k => k = 46) h0 h → L_X5_copy_120 d P h 32 (nI s) (nI i) (nI t) (nI j) (nI m) (nI k) := by
  intro e
  induction e with
  | zero =>
    intro k h z hk hmo e1 e2 e3 hF
    refine r_X5_copy_120 (pk_le m k (fun c => ?_) (fun c => absurd c (by omega)))
    exact hP h z e2 (fun q hq => e3 q (by omega)) hF
  | succ e ih =>
    intro k h z hk hmo e1 e2 e3 hF
    refine r_X5_copy_120 (pk_le m k (fun c => absurd c (by omega)) (fun c => ?_))
    rw [l100, nI_add]
    refine ⟨46, gR_o (by decide) hmo rfl, 45, gR_o (by decide) hmo rfl, _, lI_o (by decide) e1 (by omega), _, sI_o (by decide) e2 (by omega), ?_⟩
    rw [nI1]
    refine ih (k + 1) _ _ (by omega) (by rw [hu_n (by decide)]; exact hmo) (by rw [hu_n (by decide)]; exact e1) hu_s (fun q hq => ?_) (hF.tr (Fr.hu (S := fun k => k = 46) rfl))
    by_cases r : q = k
    · rw [r]; simp [upd]
    · rw [pk_un r]; exact e3 q (by omega)
theorem l_copy2 {d : Nat} {P : Int32 → Hp → Prop} {t j m : Nat} {n a fd : Int32} {fi0 z : Nat → Int32} (ht : t < 4) (hm : j + m ≤ 100) (h0 : Hp) (hP : ∀ h' fi, h' 45 = iA 400 fi → (∀ k, k < m → fi (100 * t + j + k) = z k) → (∀ k, (k < 100 * t + j ∨ 100 * t + j + m ≤ k) → fi k = fi0 k) → Fr (fun k => k = 45) h0 h' → P 1 h') :
    ∀ (e k : Nat) (h : Hp) (fi : Nat → Int32), k + e = m → h 32 = mo n a fd → h 45 = iA 400 fi → h 46 = iA 100 z → (∀ q, q < k → fi (100 * t + j + q) = z q) → (∀ k, (k < 100 * t + j ∨ 100 * t + j + m ≤ k) → fi k = fi0 k) → Fr (fun k => k = 45) h0 h → L_X5_copy_157 d P h 32 (nI t) (nI j) (nI m) (nI k) := by
  intro e
  induction e with
  | zero =>
    intro k h fi hk hmo e1 e2 e3 e4 hF
    refine r_X5_copy_157 (pk_le m k (fun c => ?_) (fun c => absurd c (by omega)))
    exact hP h fi e1 (fun q hq => e3 q (by omega)) e4 hF
  | succ e ih =>
    intro k h fi hk hmo e1 e2 e3 e4 hF
    refine r_X5_copy_157 (pk_le m k (fun c => absurd c (by omega)) (fun c => ?_))
    rw [l100, nI_add]
    refine ⟨45, gR_o (by decide) hmo rfl, 46, gR_o (by decide) hmo rfl, _, lI_o (by decide) e2 (by omega), _, sI_o (by decide) e1 (by omega), ?_⟩
    rw [nI1]
    refine ih (k + 1) _ _ (by omega) (by rw [hu_n (by decide)]; exact hmo) hu_s (by rw [hu_n (by decide)]; exact e2) (fun q hq => ?_) (fun q hq => ?_) (hF.tr (Fr.hu (S := fun k => k = 45) rfl))
    · by_cases r : q = k
      · rw [r]; simp [upd]
      · rw [pk_un (by omega)]; exact e3 q (by omega)
    · rw [pk_un (by omega)]; exact e4 q hq
theorem op_copy {n a : Nat} {g : Nat → Nat → Bool} {fd : Int32} {sh : Sh} (G : Gd n g a sh) (x i y j m : Int32) : OpI M_X4_copy M_X5_copy [.int x, .int i, .int y, .int j, .int m] n g a fd sh := by
  by_cases hb : isL 4 x = true ∧ isL 4 y = true
  · obtain ⟨hx, hy⟩ := hb
    obtain ⟨s, hs, rfl⟩ := isLN (by decide) hx
    obtain ⟨t, ht, rfl⟩ := isLN (by decide) hy
    cases hos : sh s with
    | none =>
      refine ⟨-10 - 1, n, g, a, 1, sh, G, fun d h P hC hP => ?_, fun d h P hM hP => ?_⟩
      · have Y := hC.2.2.2.2.2.2 s hs
        rw [hos] at Y
        obtain ⟨fo, sz, f, e1, e2⟩ := Y
        exact e_X4_copy hC.ok (s_isSheetX (zb (fun c => absurd (hx.symm.trans c) (by decide)) (fun _ => s_isSheetX (bz (fun _ => ⟨23, g4 hC, 24 + 2 * s, gq hC hs, 23, g4 hC, 24 + 2 * t, gq hC ht, 1, gI_o (by omega) e1 rfl, fun _ => s_finding hC hP, fun c => absurd c (by decide)⟩) (fun c => absurd (hy.symm.trans c) (by decide))))))
      · obtain ⟨fz, ff, fs, fi, b1, b2, b3, b4, b5⟩ := hM.2.2.2
        have Y := b5 s hs
        rw [hos] at Y
        have Y : fz s = 0 := Y
        exact e_X5_copy (mo_ok hM.1) (s_isSheetM (zb (fun c => absurd (hx.symm.trans c) (by decide)) (fun _ => s_isSheetM (bz (fun _ => ⟨42, gR_o (by decide) hM.1 rfl, fz s, lZ_o (by decide) b1 hs, fun _ => s_meets hM hP, fun c => absurd Y c⟩) (fun c => absurd (hy.symm.trans c) (by decide))))))
    | some os =>
      obtain ⟨fos, szs, its⟩ := os
      obtain ⟨hfos, hszs⟩ := G.2.2.2 s hs fos szs its hos
      cases hot : sh t with
      | none =>
        refine ⟨-10 - 1, n, g, a, 1, sh, G, fun d h P hC hP => ?_, fun d h P hM hP => ?_⟩
        · have Y := hC.2.2.2.2.2.2 s hs
          rw [hos] at Y
          obtain ⟨e1, f, e2, e3⟩ := Y
          have Z := hC.2.2.2.2.2.2 t ht
          rw [hot] at Z
          obtain ⟨fo, sz, f', e1', e2'⟩ := Z
          exact e_X4_copy hC.ok (s_isSheetX (zb (fun c => absurd (hx.symm.trans c) (by decide)) (fun _ => s_isSheetX (bz (fun _ => ⟨23, g4 hC, 24 + 2 * s, gq hC hs, 23, g4 hC, 24 + 2 * t, gq hC ht, 0, gI_o (by omega) e1 rfl, fun c => absurd rfl c, fun _ => ⟨1, gI_o (by omega) e1' rfl, fun c => absurd c (by decide), fun _ => s_finding hC hP⟩⟩) (fun c => absurd (hy.symm.trans c) (by decide))))))
        · obtain ⟨fz, ff, fs, fi, b1, b2, b3, b4, b5⟩ := hM.2.2.2
          have Y := b5 s hs
          rw [hos] at Y
          have Z := b5 t ht
          rw [hot] at Z
          have Z : fz t = 0 := Z
          exact e_X5_copy (mo_ok hM.1) (s_isSheetM (zb (fun c => absurd (hx.symm.trans c) (by decide)) (fun _ => s_isSheetM (bz (fun _ => ⟨42, gR_o (by decide) hM.1 rfl, fz s, lZ_o (by decide) b1 hs, fun c => absurd (Y.1.symm.trans c) (by decide), fun _ => ⟨42, gR_o (by decide) hM.1 rfl, fz t, lZ_o (by decide) b1 ht, fun c => absurd Z c, fun _ => s_meets hM hP⟩⟩) (fun c => absurd (hy.symm.trans c) (by decide))))))
      | some ot =>
        obtain ⟨fot, szt, itt⟩ := ot
        obtain ⟨hfot, hszt⟩ := G.2.2.2 t ht fot szt itt hot
        by_cases hff : fos = fot
        · subst hff
          by_cases hok : okc i m szs ∧ okc j m szt
          · obtain ⟨⟨i', m', rfl, rfl, hle⟩, j', m2, rfl, hm2, hle2⟩ := hok
            have hmm : m' = m2 := (nI_eq (by omega) (by omega)).mp hm2
            subst hmm
            have ok1 : okc (nI i') (nI m') szs := ⟨i', m', rfl, rfl, hle⟩
            have ok2 : okc (nI j') (nI m') szt := ⟨j', m', rfl, rfl, hle2⟩
            refine ⟨1, n, g, a, fd, shu sh t (some (fos, szt, va_cpy its itt i' j' m')), gd_sh G (fun _ _ _ e => by cases e; exact ⟨hfos, hszt⟩), fun d h P hC hP => ?_, fun d h P hM hP => ?_⟩
            · have Y := hC.2.2.2.2.2.2 s hs
              rw [hos] at Y
              have Z := hC.2.2.2.2.2.2 t ht
              rw [hot] at Z
              have Y0 := Y
              have Z0 := Z
              obtain ⟨e1, f, e2, e3⟩ := Y
              obtain ⟨e1', f', e2', e3'⟩ := Z
              refine e_X4_copy hC.ok (s_isSheetX (zb (fun c => absurd (hx.symm.trans c) (by decide)) (fun _ => s_isSheetX (bz (fun _ => ⟨23, g4 hC, 24 + 2 * s, gq hC hs, 23, g4 hC, 24 + 2 * t, gq hC ht, 0, gI_o (by omega) e1 rfl, fun c => absurd rfl c, fun _ => ⟨0, gI_o (by omega) e1' rfl, fun _ => ⟨nI fos, gI_o (by omega) e1 rfl, nI fos, gI_o (by omega) e1' rfl, fun _ => s_hasItems hs hszs Y0 (fun _ => ⟨fun c => absurd c (by decide), fun _ => s_hasItems ht hszt Z0 (fun _ => ⟨fun _ => ⟨25 + 2 * s, gR_o (by omega) e1 rfl, 25 + 2 * t, gR_o (by omega) e1' rfl, ?_⟩, fun c => absurd c (by decide)⟩) (fun c => absurd ok2 c)⟩) (fun c => absurd ok1 c), fun c => absurd rfl c⟩, fun c => absurd rfl c⟩⟩) (fun c => absurd (hy.symm.trans c) (by decide))))))
              have ec : cpyI h (25 + 2 * s) (nI i') (25 + 2 * t) (nI j') (nI m') = some (hu h (25 + 2 * t) (iA 100 (va_cpy f f' i' j' m'))) := by
                unfold cpyI
                rw [aInt_o (t := 0) (by omega) e2, aInt_o (t := 0) (by omega) e2']
                dsimp only
                rw [nI_clamp (show i' < 2 ^ 31 by omega), nI_clamp (show j' < 2 ^ 31 by omega), nI_clamp (show m' < 2 ^ 31 by omega), if_pos ⟨nI_pos' (by omega), nI_pos' (by omega), nI_pos' (by omega), by omega, by omega⟩]
              refine ⟨_, ec, ?_⟩
              have hF := Fr.hu (S := S2 t) (h := h) (k := 25 + 2 * t) (c := iA 100 (va_cpy f f' i' j' m')) (Or.inr rfl)
              refine hP _ (hC.sheet ht hF ⟨by rw [hu_n (by omega)]; exact e1', _, hu_s, fun q hq => ?_⟩) (hF.mono (fun k => S2C ht))
              unfold va_cpy
              by_cases r : j' ≤ q ∧ q < j' + m'
              · rw [if_pos r, if_pos r]; exact e3 _ (by omega)
              · rw [if_neg r, if_neg r]; exact e3' q hq
            · obtain ⟨fz, ff, fs, fi, b1, b2, b3, b4, b5⟩ := hM.2.2.2
              have Y := b5 s hs
              rw [hos] at Y
              have Z := b5 t ht
              rw [hot] at Z
              refine e_X5_copy (mo_ok hM.1) (s_isSheetM (zb (fun c => absurd (hx.symm.trans c) (by decide)) (fun _ => s_isSheetM (bz (fun _ => ⟨42, gR_o (by decide) hM.1 rfl, fz s, lZ_o (by decide) b1 hs, fun c => absurd (Y.1.symm.trans c) (by decide), fun _ => ⟨42, gR_o (by decide) hM.1 rfl, fz t, lZ_o (by decide) b1 ht, fun _ => ⟨43, gR_o (by decide) hM.1 rfl, ff s, lI_o (by decide) b2 hs, 43, gR_o (by decide) hM.1 rfl, ff t, lI_o (by decide) b2 ht, fun _ => ⟨fun c => absurd c (nI_pos (by omega)), fun _ => ⟨fun c => absurd c (nI_pos (by omega)), fun _ => ⟨fun c => absurd c (nI_pos (by omega)), fun _ => ⟨44, gR_o (by decide) hM.1 rfl, fs s, lI_o (by decide) b3 hs, ?_⟩⟩⟩⟩, fun c => absurd (Y.2.1.trans Z.2.1.symm) c⟩, fun c => absurd (Z.1.symm.trans c) (by decide)⟩⟩) (fun c => absurd (hy.symm.trans c) (by decide))))))
              rw [Y.2.2.1, nI_l (show i' < 2 ^ 31 by omega), nI_l (show m' < 2 ^ 31 by omega), nI_l (show szs < 2 ^ 31 by omega), lN_add, lcmp_gt (by omega) (by omega)]
              refine ⟨fun c => absurd c (by omega), fun _ => ⟨44, gR_o (by decide) hM.1 rfl, fs t, lI_o (by decide) b3 ht, ?_⟩⟩
              rw [Z.2.2.1, nI_l (show j' < 2 ^ 31 by omega), nI_l (show szt < 2 ^ 31 by omega), lN_add, lcmp_le (by omega) (by omega)]
              refine ⟨fun _ => ?_, fun c => absurd hle2 c⟩
              obtain ⟨z0, hz0⟩ := hM.2.2.1.2.2.2.2.2.2.2.2
              refine l_copy1 (n := nI n) (a := nI a) (fd := fd) (fi := fi) hs (by omega) h (fun h1 z q1 q2 q3 => ?_) m' 0 h z0 (by omega) hM.1 b4 hz0 (fun q hq => absurd hq (by omega)) Fr.rf
              refine l_copy2 (n := nI n) (a := nI a) (fd := fd) (fi0 := fi) (z := z) ht (by omega) h1 (fun h2 fi2 p1 p2 p3 p4 => ?_) m' 0 h1 fi (by omega) (by rw [q3 32 (by decide)]; exact hM.1) (by rw [q3 45 (by decide)]; exact b4) q1 (fun q hq => absurd hq (by omega)) (fun _ _ => rfl) Fr.rf
              have rest : ∀ k, k ≠ 45 → k ≠ 46 → h2 k = h k := fun k k1 k2 => by rw [p4 k k1, q3 k k2]
              refine hP h2 (hM.items ht hot G b4 p1 (fun k _ _ k3 => rest k k3 (by omega)) ⟨z, by rw [p4 46 (by decide)]; exact q1⟩ (fun q hq => ?_) (fun q hq => p3 q (by omega))) (fun k hk => rest k (fun e => hk (by omega)) (fun e => hk (by omega)))
              unfold va_cpy
              by_cases r : j' ≤ q ∧ q < j' + m'
              · rw [if_pos r]
                have e1 := p2 (q - j') (by omega)
                rw [show 100 * t + j' + (q - j') = 100 * t + q by omega] at e1
                rw [e1, q2 _ (by omega), show 100 * s + i' + (q - j') = 100 * s + (i' + (q - j')) by omega]
                exact Y.2.2.2 _ (by omega)
              · rw [if_neg r, p3 _ (by omega)]
                exact Z.2.2.2 q hq
          · refine ⟨-10 - 2, n, g, a, 2, sh, G, fun d h P hC hP => ?_, fun d h P hM hP => ?_⟩
            · have Y := hC.2.2.2.2.2.2 s hs
              rw [hos] at Y
              have Z := hC.2.2.2.2.2.2 t ht
              rw [hot] at Z
              have Y0 := Y
              have Z0 := Z
              obtain ⟨e1, f, e2, e3⟩ := Y
              obtain ⟨e1', f', e2', e3'⟩ := Z
              exact e_X4_copy hC.ok (s_isSheetX (zb (fun c => absurd (hx.symm.trans c) (by decide)) (fun _ => s_isSheetX (bz (fun _ => ⟨23, g4 hC, 24 + 2 * s, gq hC hs, 23, g4 hC, 24 + 2 * t, gq hC ht, 0, gI_o (by omega) e1 rfl, fun c => absurd rfl c, fun _ => ⟨0, gI_o (by omega) e1' rfl, fun _ => ⟨nI fos, gI_o (by omega) e1 rfl, nI fos, gI_o (by omega) e1' rfl, fun _ => s_hasItems hs hszs Y0 (fun o1 => ⟨fun c => absurd c (by decide), fun _ => s_hasItems ht hszt Z0 (fun o2 => absurd ⟨o1, o2⟩ hok) (fun _ => ⟨fun c => absurd rfl c, fun _ => s_finding hC hP⟩)⟩) (fun _ => ⟨fun _ => s_finding hC hP, fun c => absurd rfl c⟩), fun c => absurd rfl c⟩, fun c => absurd rfl c⟩⟩) (fun c => absurd (hy.symm.trans c) (by decide))))))
            · obtain ⟨fz, ff, fs, fi, b1, b2, b3, b4, b5⟩ := hM.2.2.2
              have Y := b5 s hs
              rw [hos] at Y
              have Z := b5 t ht
              rw [hot] at Z
              have M : CI M_X5_meets (d + 19) [.ref 32, .int 2] h (fun x h' => P x h') := s_meets hM hP
              refine e_X5_copy (mo_ok hM.1) (s_isSheetM (zb (fun c => absurd (hx.symm.trans c) (by decide)) (fun _ => s_isSheetM (bz (fun _ => ⟨42, gR_o (by decide) hM.1 rfl, fz s, lZ_o (by decide) b1 hs, fun c => absurd (Y.1.symm.trans c) (by decide), fun _ => ⟨42, gR_o (by decide) hM.1 rfl, fz t, lZ_o (by decide) b1 ht, fun _ => ⟨43, gR_o (by decide) hM.1 rfl, ff s, lI_o (by decide) b2 hs, 43, gR_o (by decide) hM.1 rfl, ff t, lI_o (by decide) b2 ht, fun _ => ⟨fun _ => M, fun c1 => ⟨fun _ => M, fun c2 => ⟨fun _ => M, fun c3 => ⟨44, gR_o (by decide) hM.1 rfl, fs s, lI_o (by decide) b3 hs, ?_⟩⟩⟩⟩, fun c => absurd (Y.2.1.trans Z.2.1.symm) c⟩, fun c => absurd (Z.1.symm.trans c) (by decide)⟩⟩) (fun c => absurd (hy.symm.trans c) (by decide))))))
              obtain ⟨i', hi', rfl⟩ := nI_of c1
              obtain ⟨j', hj', rfl⟩ := nI_of c2
              obtain ⟨m', hm', rfl⟩ := nI_of c3
              rw [Y.2.2.1, nI_l hi', nI_l hm', nI_l (show szs < 2 ^ 31 by omega), lN_add, lcmp_gt (by omega) (by omega)]
              refine ⟨fun _ => M, fun c4 => ⟨44, gR_o (by decide) hM.1 rfl, fs t, lI_o (by decide) b3 ht, ?_⟩⟩
              rw [Z.2.2.1, nI_l hj', nI_l (show szt < 2 ^ 31 by omega), lN_add, lcmp_le (by omega) (by omega)]
              refine ⟨fun c5 => absurd ⟨⟨i', m', rfl, rfl, by omega⟩, ⟨j', m', rfl, rfl, c5⟩⟩ hok, fun _ => M⟩
        · have hne : ¬ nI fos = nI fot := nne hff
          refine ⟨-10 - 4, n, g, a, 4, sh, G, fun d h P hC hP => ?_, fun d h P hM hP => ?_⟩
          · have Y := hC.2.2.2.2.2.2 s hs
            rw [hos] at Y
            have Z := hC.2.2.2.2.2.2 t ht
            rw [hot] at Z
            obtain ⟨e1, f, e2, e3⟩ := Y
            obtain ⟨e1', f', e2', e3'⟩ := Z
            exact e_X4_copy hC.ok (s_isSheetX (zb (fun c => absurd (hx.symm.trans c) (by decide)) (fun _ => s_isSheetX (bz (fun _ => ⟨23, g4 hC, 24 + 2 * s, gq hC hs, 23, g4 hC, 24 + 2 * t, gq hC ht, 0, gI_o (by omega) e1 rfl, fun c => absurd rfl c, fun _ => ⟨0, gI_o (by omega) e1' rfl, fun _ => ⟨nI fos, gI_o (by omega) e1 rfl, nI fot, gI_o (by omega) e1' rfl, fun c => absurd c hne, fun _ => s_finding hC hP⟩, fun c => absurd rfl c⟩⟩) (fun c => absurd (hy.symm.trans c) (by decide))))))
          · obtain ⟨fz, ff, fs, fi, b1, b2, b3, b4, b5⟩ := hM.2.2.2
            have Y := b5 s hs
            rw [hos] at Y
            have Z := b5 t ht
            rw [hot] at Z
            exact e_X5_copy (mo_ok hM.1) (s_isSheetM (zb (fun c => absurd (hx.symm.trans c) (by decide)) (fun _ => s_isSheetM (bz (fun _ => ⟨42, gR_o (by decide) hM.1 rfl, fz s, lZ_o (by decide) b1 hs, fun c => absurd (Y.1.symm.trans c) (by decide), fun _ => ⟨42, gR_o (by decide) hM.1 rfl, fz t, lZ_o (by decide) b1 ht, fun _ => ⟨43, gR_o (by decide) hM.1 rfl, ff s, lI_o (by decide) b2 hs, 43, gR_o (by decide) hM.1 rfl, ff t, lI_o (by decide) b2 ht, fun c => absurd (by rw [← Y.2.1, ← Z.2.1]; exact c) hne, fun _ => s_meets hM hP⟩, fun c => absurd (Z.1.symm.trans c) (by decide)⟩⟩) (fun c => absurd (hy.symm.trans c) (by decide))))))
  · refine ⟨-2, n, g, a, fd, sh, G, fun d h P hC hP => ?_, fun d h P hM hP => ?_⟩
    · exact e_X4_copy hC.ok (s_isSheetX (zb (fun c => hP h hC Fr.rf) (fun c => s_isSheetX (bz (fun c2 => absurd ⟨c, c2⟩ hb) (fun c2 => hP h hC Fr.rf)))))
    · exact e_X5_copy (mo_ok hM.1) (s_isSheetM (zb (fun c => hP h hM Fr.rf) (fun c => s_isSheetM (bz (fun c2 => absurd ⟨c, c2⟩ hb) (fun c2 => hP h hM Fr.rf)))))
