/-! ===== lay, get ===== -/
def wr (o : Option (Nat × Nat × (Nat → Int32))) (y i : Int32) : Int32 := match o with
  | none => 1
  | some (fo, sz, _) => if nI fo = y then (if isL sz i = true then 0 else 2) else 3
theorem wr_pos {o : Option (Nat × Nat × (Nat → Int32))} {y i : Int32} (h : ¬ wr o y i = 0) : ¬ wr o y i ≤ 0 := by
  unfold wr at h ⊢
  match o with
  | none => show ¬ (1 : Int32) ≤ 0; decide
  | some (fo, sz, _) =>
    dsimp only at h ⊢
    by_cases q : nI fo = y
    · rw [if_pos q] at h ⊢
      by_cases q2 : isL sz i = true
      · rw [if_pos q2] at h; exact absurd rfl h
      · rw [if_neg q2]; decide
    · rw [if_neg q]; decide
theorem wr_zero {o : Option (Nat × Nat × (Nat → Int32))} {y i : Int32} (h : wr o y i = 0) (hs : ∀ fo sz it, o = some (fo, sz, it) → fo < 3 ∧ sz ≤ 100) : ∃ fo sz it k, o = some (fo, sz, it) ∧ y = nI fo ∧ i = nI k ∧ k < sz ∧ fo < 3 ∧ sz ≤ 100 := by
  unfold wr at h
  match o, h, hs with
  | none, h, _ => exact absurd (show (1 : Int32) = 0 from h) (by decide)
  | some (fo, sz, it), h, hs =>
    dsimp only at h
    obtain ⟨h3, h100⟩ := hs fo sz it rfl
    by_cases q : nI fo = y
    · rw [if_pos q] at h
      by_cases q2 : isL sz i = true
      · obtain ⟨k, hk, rfl⟩ := isLN (by omega) q2
        exact ⟨fo, sz, it, k, rfl, q.symm, rfl, hk, h3, h100⟩
      · rw [if_neg q2] at h; exact absurd h (by decide)
    · rw [if_neg q] at h; exact absurd h (by decide)
theorem s_wrongX {d : Nat} {P : Int32 → Hp → Prop} {h : Hp} {n a s : Nat} {g : Nat → Nat → Bool} {fd y i : Int32} {sh : Sh} (hs : s < 4) (hC : CX h n g a fd sh) (hP : P (wr (sh s) y i) h) : CI M_X1_wrongWithItem (d + 1) [.ref (24 + 2 * s), .int y, .int i] h P := by
  have Y := hC.2.2.2.2.2.2 s hs
  unfold wr at hP
  cases ho : sh s with
  | none =>
    rw [ho] at Y hP
    obtain ⟨fo, sz, f, e1, e2⟩ := Y
    exact e_X1_wrongWithItem ⟨by omega, _, e1⟩ ⟨1, gI_o (by omega) e1 rfl, fun c => absurd c (by decide), fun _ => hP⟩
  | some o =>
    obtain ⟨fo, sz, it⟩ := o
    rw [ho] at Y hP
    obtain ⟨e1, f, e2, e3⟩ := Y
    dsimp only at hP
    refine e_X1_wrongWithItem ⟨by omega, _, e1⟩ ⟨0, gI_o (by omega) e1 rfl, fun _ => ⟨nI fo, gI_o (by omega) e1 rfl, fun c => ?_, fun c => ?_⟩, fun c => absurd rfl c⟩
    · rw [if_pos c] at hP
      refine ⟨fun c2 => ?_, fun c2 => ⟨nI sz, gI_o (by omega) e1 rfl, fun c3 => ?_, fun c3 => ?_⟩⟩
      · rw [isL_f1 c2] at hP; exact hP
      · rw [isL_f2 c3] at hP; exact hP
      · rw [isL_tt c2 c3] at hP; exact hP
    · rw [if_neg c] at hP; exact hP
theorem s_lacksM {d : Nat} {P : Int32 → Hp → Prop} {h : Hp} {n a s : Nat} {g : Nat → Nat → Bool} {fd y i : Int32} {sh : Sh} (G : Gd n g a sh) (hs : s < 4) (hM : MX h n g a fd sh) (hP : P (wr (sh s) y i) h) : CI M_X5_lacks (d + 2) [.ref 32, .int (nI s), .int y, .int i] h P := by
  obtain ⟨fz, ff, fs, fi, b1, b2, b3, b4, b5⟩ := hM.2.2.2
  have Y := b5 s hs
  unfold wr at hP
  cases ho : sh s with
  | none =>
    rw [ho] at Y hP
    have Y : fz s = 0 := Y
    exact e_X5_lacks (mo_ok hM.1) ⟨42, gR_o (by decide) hM.1 rfl, fz s, lZ_o (by decide) b1 hs, fun c => absurd Y c, fun _ => hP⟩
  | some o =>
    obtain ⟨fo, sz, it⟩ := o
    have hsz := (G.2.2.2 s hs fo sz it ho).2
    rw [ho] at Y hP
    obtain ⟨y1, y2, y3, y4⟩ := Y
    dsimp only at hP
    refine e_X5_lacks (mo_ok hM.1) ⟨42, gR_o (by decide) hM.1 rfl, fz s, lZ_o (by decide) b1 hs, fun _ => ⟨43, gR_o (by decide) hM.1 rfl, ff s, lI_o (by decide) b2 hs, fun c => ?_, fun c => ?_⟩, fun c => absurd (y1.symm.trans c) (by decide)⟩
    · rw [y2] at c
      rw [if_pos c] at hP
      refine ⟨44, gR_o (by decide) hM.1 rfl, fs s, lI_o (by decide) b3 hs, ?_⟩
      rw [y3]
      refine s_inL (n := sz) (by omega) rfl (zb (fun c2 => ?_) (fun c2 => ?_))
      · rw [c2] at hP; exact hP
      · rw [c2] at hP; exact hP
    · rw [y2] at c
      rw [if_neg c] at hP; exact hP
def nar (fo : Nat) (v : Int32) : Int32 := if fo = 0 then v.toInt8.toInt32 else if fo = 1 then v.toInt16.toInt32 else v
theorem s_setItem {d : Nat} {P : Hp → Prop} {h : Hp} {s fo sz k : Nat} {it : Nat → Int32} {v : Int32} (hs : s < 4) (hfo : fo < 3) (hsz : sz ≤ 100) (hk : k < sz) (Y : SHs h s (some (fo, sz, it))) (hP : ∀ h', SHs h' s (some (fo, sz, upd it k (nar fo v))) → Fr (S2 s) h h' → P h') : CV M_X1_setItem (d + 1) [.ref (24 + 2 * s), .int (nI k), .int v] h P := by
  obtain ⟨e1, f, e2, e3⟩ := Y
  have fin : ∀ w, w = nar fo v → ∃ q3, gR h 1 (24 + 2 * s) 0 = some q3 ∧ ∃ h4, sI h q3 (nI k) w = some h4 ∧ P h4 := fun w hw => by
    refine ⟨25 + 2 * s, gR_o (by omega) e1 rfl, _, sI_o (by omega) e2 (by omega), hP _ ⟨by rw [hu_n (by omega)]; exact e1, _, hu_s, fun i hi => ?_⟩ (Fr.hu (S := S2 s) (Or.inr rfl))⟩
    rw [hw]
    unfold upd
    by_cases q : i = k
    · rw [if_pos q, if_pos q]
    · rw [if_neg q, if_neg q]; exact e3 i hi
  refine e_X1_setItem ⟨by omega, _, e1⟩ ⟨nI fo, gI_o (by omega) e1 rfl, pq_ne fo 0 (fun c => ⟨nI fo, gI_o (by omega) e1 rfl, pq_ne fo 1 (fun c2 => fin _ ?_) (fun c2 => fin _ ?_)⟩) (fun c => fin _ ?_)⟩
  · unfold nar; rw [if_neg c, if_neg c2]
  · unfold nar; rw [if_neg c, if_pos c2]
  · unfold nar; rw [if_pos c]
theorem MX.items {h h' : Hp} {n a s fo sz : Nat} {g : Nat → Nat → Bool} {fd : Int32} {sh : Sh} {it it' fi fi' : Nat → Int32} (hs : s < 4) (ho : sh s = some (fo, sz, it)) (G : Gd n g a sh) (x : MX h n g a fd sh) (e45 : h 45 = iA 400 fi) (e45' : h' 45 = iA 400 fi') (f : ∀ k, 32 ≤ k → k < 46 → k ≠ 45 → h' k = h k) (f46 : ∃ z, h' 46 = iA 100 z)
    (e1 : ∀ i, i < sz → fi' (100 * s + i) = it' i) (e2 : ∀ k, (k < 100 * s ∨ 100 * s + 100 ≤ k) → fi' k = fi k) : MX h' n g a fd (shu sh s (some (fo, sz, it'))) := by
  obtain ⟨a1, a2, a3, a4⟩ := x
  obtain ⟨fz, ff, fs, fi0, b1, b2, b3, b4, b5⟩ := a4
  have hfi : fi0 = fi := by
    rw [b4] at e45
    unfold iA at e45
    simpa using e45
  subst hfi
  refine ⟨by rw [f 32 (by decide) (by decide) (by decide)]; exact a1, by rw [f 33 (by decide) (by decide) (by decide)]; exact a2, ?_, fz, ff, fs, fi', by rw [f 42 (by decide) (by decide) (by decide)]; exact b1, by rw [f 43 (by decide) (by decide) (by decide)]; exact b2, by rw [f 44 (by decide) (by decide) (by decide)]; exact b3, e45', fun s' hs' => ?_⟩
  · obtain ⟨c1, c2, c3, c4, c5, c6, c7, c8, c9⟩ := a3
    exact ⟨by rw [f 34 (by decide) (by decide) (by decide)]; exact c1, by rw [f 35 (by decide) (by decide) (by decide)]; exact c2, by rw [f 36 (by decide) (by decide) (by decide)]; exact c3, by rw [f 37 (by decide) (by decide) (by decide)]; exact c4, by rw [f 38 (by decide) (by decide) (by decide)]; exact c5, by rw [f 39 (by decide) (by decide) (by decide)]; exact c6, by rw [f 40 (by decide) (by decide) (by decide)]; exact c7, by rw [f 41 (by decide) (by decide) (by decide)]; exact c8, f46⟩
  · unfold shu
    by_cases q : s' = s
    · subst q
      have := b5 s' hs'
      rw [ho] at this
      rw [if_pos rfl]
      exact ⟨this.1, this.2.1, this.2.2.1, e1⟩
    · rw [if_neg q]
      have := b5 s' hs'
      cases ho' : sh s' with
      | none => rw [ho'] at this; exact this
      | some o =>
        obtain ⟨fo', sz', it2⟩ := o
        rw [ho'] at this
        have hsz := (G.2.2.2 s' hs' fo' sz' it2 ho').2
        exact ⟨this.1, this.2.1, this.2.2.1, fun i hi => by rw [e2 _ (by omega)]; exact this.2.2.2 i hi⟩
theorem op_lay {n a : Nat} {g : Nat → Nat → Bool} {fd : Int32} {sh : Sh} (G : Gd n g a sh) (x y i v : Int32) : OpI M_X4_lay M_X5_lay [.int x, .int y, .int i, .int v] n g a fd sh := by
  by_cases hb : isL 4 x = true ∧ isL 3 y = true
  · obtain ⟨hx, hy⟩ := hb
    obtain ⟨s, hs, rfl⟩ := isLN (by decide) hx
    by_cases hw : wr (sh s) y i = 0
    · obtain ⟨fo, sz, it, k, ho, rfl, rfl, hk, hfo, hsz⟩ := wr_zero hw (G.2.2.2 s hs)
      refine ⟨1, n, g, a, fd, shu sh s (some (fo, sz, upd it k (nar fo v))), gd_sh G (fun _ _ _ e => by cases e; exact ⟨hfo, hsz⟩), fun d h P hC hP => ?_, fun d h P hM hP => ?_⟩
      · have Y := hC.2.2.2.2.2.2 s hs
        rw [ho] at Y
        refine e_X4_lay hC.ok (s_isSheetX (zb (fun c => absurd (hx.symm.trans c) (by decide)) (fun _ => s_isFormX (bz (fun _ => ⟨23, g4 hC, 24 + 2 * s, gq hC hs, s_wrongX hs hC ⟨fun _ => ⟨23, g4 hC, 24 + 2 * s, gq hC hs, ?_⟩, fun c => absurd hw c⟩⟩) (fun c => absurd (hy.symm.trans c) (by decide))))))
        exact s_setItem hs hfo hsz hk Y (fun h' Y' hF => hP h' (hC.sheet hs hF Y') (hF.mono (fun k => S2C hs)))
      · obtain ⟨fz, ff, fs, fi, b1, b2, b3, b4, b5⟩ := hM.2.2.2
        have y4 := b5 s hs
        rw [ho] at y4
        have fin : ∀ w, w = nar fo v → ∃ h8, sI h 45 (((100 : Int32) * nI s) + nI k) w = some h8 ∧ P 1 h8 := fun w hwn => by
          rw [l100]
          refine ⟨_, sI_o (by decide) b4 (by omega), ?_⟩
          have rest : ∀ k', k' ≠ 45 → hu h 45 (iA 400 (upd fi (100 * s + k) w)) k' = h k' := fun k' q => hu_n q
          refine hP _ (hM.items hs ho G b4 hu_s (fun k' _ _ q => rest k' q) (by rw [rest 46 (by decide)]; exact hM.2.2.1.2.2.2.2.2.2.2.2) (fun j hj => ?_) (fun j hj => ?_)) (Fr.hu (S := MM32) (by decide))
          · unfold upd
            by_cases q : j = k
            · rw [if_pos (by omega), if_pos q, hwn]
            · rw [if_neg (by omega), if_neg q]; exact y4.2.2.2 j hj
          · exact pk_un (by omega)
        refine e_X5_lay (mo_ok hM.1) (s_isSheetM (zb (fun c => absurd (hx.symm.trans c) (by decide)) (fun _ => s_inL (n := 3) (by decide) (by decide) (bz (fun _ => s_lacksM G hs hM ⟨fun _ => ⟨45, gR_o (by decide) hM.1 rfl, pq_ne fo 0 (fun c => pq_ne fo 1 (fun c2 => fin _ ?_) (fun c2 => fin _ ?_)) (fun c => fin _ ?_)⟩, fun c => absurd (by rw [hw]; decide) c⟩) (fun c => absurd (hy.symm.trans c) (by decide))))))
        · unfold nar; rw [if_neg c, if_neg c2]
        · unfold nar; rw [if_neg c, if_pos c2]
        · unfold nar; rw [if_pos c]
    · refine ⟨-10 - wr (sh s) y i, n, g, a, wr (sh s) y i, sh, G, fun d h P hC hP => ?_, fun d h P hM hP => ?_⟩
      · exact e_X4_lay hC.ok (s_isSheetX (zb (fun c => absurd (hx.symm.trans c) (by decide)) (fun _ => s_isFormX (bz (fun _ => ⟨23, g4 hC, 24 + 2 * s, gq hC hs, s_wrongX hs hC ⟨fun c => absurd c hw, fun _ => s_finding hC hP⟩⟩) (fun c => absurd (hy.symm.trans c) (by decide))))))
      · exact e_X5_lay (mo_ok hM.1) (s_isSheetM (zb (fun c => absurd (hx.symm.trans c) (by decide)) (fun _ => s_inL (n := 3) (by decide) (by decide) (bz (fun _ => s_lacksM G hs hM ⟨fun c => absurd c (wr_pos hw), fun _ => s_meets hM hP⟩) (fun c => absurd (hy.symm.trans c) (by decide))))))
  · refine ⟨-2, n, g, a, fd, sh, G, fun d h P hC hP => ?_, fun d h P hM hP => ?_⟩
    · exact e_X4_lay hC.ok (s_isSheetX (zb (fun c => hP h hC Fr.rf) (fun c => s_isFormX (bz (fun c2 => absurd ⟨c, c2⟩ hb) (fun c2 => hP h hC Fr.rf)))))
    · exact e_X5_lay (mo_ok hM.1) (s_isSheetM (zb (fun c => hP h hM Fr.rf) (fun c => s_inL (n := 3) (by decide) (by decide) (bz (fun c2 => absurd ⟨c, c2⟩ hb) (fun c2 => hP h hM Fr.rf)))))
theorem op_get {n a : Nat} {g : Nat → Nat → Bool} {fd : Int32} {sh : Sh} (G : Gd n g a sh) (x y i : Int32) : OpI M_X4_get M_X5_get [.int x, .int y, .int i] n g a fd sh := by
  by_cases hb : isL 4 x = true ∧ isL 3 y = true
  · obtain ⟨hx, hy⟩ := hb
    obtain ⟨s, hs, rfl⟩ := isLN (by decide) hx
    by_cases hw : wr (sh s) y i = 0
    · obtain ⟨fo, sz, it, k, ho, rfl, rfl, hk, hfo, hsz⟩ := wr_zero hw (G.2.2.2 s hs)
      refine ⟨it k, n, g, a, fd, sh, G, fun d h P hC hP => ?_, fun d h P hM hP => ?_⟩
      · have Y := hC.2.2.2.2.2.2 s hs
        rw [ho] at Y
        obtain ⟨e1, f, e2, e3⟩ := Y
        refine e_X4_get hC.ok (s_isSheetX (zb (fun c => absurd (hx.symm.trans c) (by decide)) (fun _ => s_isFormX (bz (fun _ => ⟨23, g4 hC, 24 + 2 * s, gq hC hs, s_wrongX hs hC ⟨fun _ => ⟨23, g4 hC, 24 + 2 * s, gq hC hs, 25 + 2 * s, gR_o (by omega) e1 rfl, f k, lI_o (by omega) e2 (by omega), ?_⟩, fun c => absurd hw c⟩⟩) (fun c => absurd (hy.symm.trans c) (by decide))))))
        rw [e3 k hk]; exact hP h hC Fr.rf
      · obtain ⟨fz, ff, fs, fi, b1, b2, b3, b4, b5⟩ := hM.2.2.2
        have y4 := b5 s hs
        rw [ho] at y4
        refine e_X5_get (mo_ok hM.1) (s_isSheetM (zb (fun c => absurd (hx.symm.trans c) (by decide)) (fun _ => s_inL (n := 3) (by decide) (by decide) (bz (fun _ => s_lacksM G hs hM ⟨fun _ => ?_, fun c => absurd (by rw [hw]; decide) c⟩) (fun c => absurd (hy.symm.trans c) (by decide))))))
        rw [l100]
        refine ⟨45, gR_o (by decide) hM.1 rfl, _, lI_o (by decide) b4 (by omega), ?_⟩
        rw [y4.2.2.2 k hk]; exact hP h hM Fr.rf
    · refine ⟨-2147483648, n, g, a, wr (sh s) y i, sh, G, fun d h P hC hP => ?_, fun d h P hM hP => ?_⟩
      · exact e_X4_get hC.ok (s_isSheetX (zb (fun c => absurd (hx.symm.trans c) (by decide)) (fun _ => s_isFormX (bz (fun _ => ⟨23, g4 hC, 24 + 2 * s, gq hC hs, s_wrongX hs hC ⟨fun c => absurd c hw, fun _ => ⟨_, sF_o (by decide) hC.1 (by simp), hP _ hC.set0 (Fr.hu (S := CC32) (by decide))⟩⟩⟩) (fun c => absurd (hy.symm.trans c) (by decide))))))
      · exact e_X5_get (mo_ok hM.1) (s_isSheetM (zb (fun c => absurd (hx.symm.trans c) (by decide)) (fun _ => s_inL (n := 3) (by decide) (by decide) (bz (fun _ => s_lacksM G hs hM ⟨fun c => absurd c (wr_pos hw), fun _ => ⟨_, sF_o (by decide) hM.1 (by simp), hP _ hM.set32 (Fr.hu (S := MM32) (by decide))⟩⟩) (fun c => absurd (hy.symm.trans c) (by decide))))))
  · refine ⟨-2147483648, n, g, a, fd, sh, G, fun d h P hC hP => ?_, fun d h P hM hP => ?_⟩
    · exact e_X4_get hC.ok (s_isSheetX (zb (fun c => hP h hC Fr.rf) (fun c => s_isFormX (bz (fun c2 => absurd ⟨c, c2⟩ hb) (fun c2 => hP h hC Fr.rf)))))
    · exact e_X5_get (mo_ok hM.1) (s_isSheetM (zb (fun c => hP h hM Fr.rf) (fun c => s_inL (n := 3) (by decide) (by decide) (bz (fun c2 => absurd ⟨c, c2⟩ hb) (fun c2 => hP h hM Fr.rf)))))
