theorem bz {b : Bool} {A B : Prop} (t : b = true → A) (f : b = false → B) : (¬ b2i b = 0 → A) ∧ (b2i b = 0 → B) := by
  rw [b2i_0]
  exact ⟨fun c => t (by cases b <;> simp at c ⊢), f⟩
theorem zb {b : Bool} {A B : Prop} (f : b = false → B) (t : b = true → A) : (b2i b = 0 → B) ∧ (¬ b2i b = 0 → A) := by
  rw [b2i_0]
  exact ⟨f, fun c => t (by cases b <;> simp at c ⊢)⟩
abbrev Sh : Type := Nat → Option (Nat × Nat × (Nat → Int32))
def Gd (n : Nat) (g : Nat → Nat → Bool) (a : Nat) (sh : Sh) : Prop := n ≤ 10 ∧ WF n g ∧ (a = 3 ∨ a = 5 ∨ a = 7 ∨ a = 9) ∧ ∀ s, s < 4 → ∀ fo sz it, sh s = some (fo, sz, it) → fo < 3 ∧ sz ≤ 100
def SM0 (h : Hp) : Prop := (∃ x y, h 5 = ob 2 [.ref 6, .ref 7, .ref 8, .int x, .int y]) ∧ (∃ f, h 6 = jA 12 f) ∧ h 7 = qA 4 11 (fun i => if i < 11 then some (9 + i) else none) ∧ (∃ f, h 8 = jA 11 f) ∧ ∀ i, i < 11 → ∃ f, h (9 + i) = jA 100 f
def NB0 (h : Hp) : Prop := (∃ x y, h 20 = ob 0 [.ref 21, .ref 22, .int x, .int y]) ∧ (∃ f, h 21 = iA 7 f) ∧ ∃ f, h 22 = iA 7 f
def SHs (h : Hp) (s : Nat) (o : Option (Nat × Nat × (Nat → Int32))) : Prop := match o with
  | none => ∃ fo sz f, h (24 + 2 * s) = ob 1 [.ref (25 + 2 * s), .int 1, .int fo, .int sz] ∧ h (25 + 2 * s) = iA 100 f
  | some (fo, sz, it) => h (24 + 2 * s) = ob 1 [.ref (25 + 2 * s), .int 0, .int (nI fo), .int (nI sz)] ∧ ∃ f, h (25 + 2 * s) = iA 100 f ∧ ∀ i, i < sz → f i = it i
def SHX (h : Hp) (sh : Sh) : Prop := h 23 = qA 3 4 (fun i => if i < 4 then some (24 + 2 * i) else none) ∧ ∀ s, s < 4 → SHs h s (sh s)
def eo (a fd : Int32) : Cl := ob 4 [.ref 1, .ref 3, .ref 5, .ref 20, .ref 23, .int a, .int fd]
/-- the class's object and all that it holds -/
def CX (h : Hp) (n : Nat) (g : Nat → Nat → Bool) (a : Nat) (fd : Int32) (sh : Sh) : Prop := h 0 = eo (nI a) fd ∧ TB h 1 2 n g ∧ TB0 h 3 4 ∧ SM0 h ∧ NB0 h ∧ SHX h sh
theorem SM0.eq {h h' : Hp} (a : SM0 h) (e : ∀ k, 5 ≤ k → k < 20 → h' k = h k) : SM0 h' := by
  obtain ⟨a1, a2, a3, a4, a5⟩ := a
  refine ⟨by rw [e 5 (by decide) (by decide)]; exact a1, by rw [e 6 (by decide) (by decide)]; exact a2, by rw [e 7 (by decide) (by decide)]; exact a3, by rw [e 8 (by decide) (by decide)]; exact a4, fun i hi => by rw [e (9 + i) (by omega) (by omega)]; exact a5 i hi⟩
theorem NB0.eq {h h' : Hp} (a : NB0 h) (e : ∀ k, 20 ≤ k → k < 23 → h' k = h k) : NB0 h' := by
  obtain ⟨a1, a2, a3⟩ := a
  exact ⟨by rw [e 20 (by decide) (by decide)]; exact a1, by rw [e 21 (by decide) (by decide)]; exact a2, by rw [e 22 (by decide) (by decide)]; exact a3⟩
theorem SHs.eq {h h' : Hp} {s : Nat} {o : Option (Nat × Nat × (Nat → Int32))} (a : SHs h s o) (e1 : h' (24 + 2 * s) = h (24 + 2 * s)) (e2 : h' (25 + 2 * s) = h (25 + 2 * s)) : SHs h' s o := by
  unfold SHs at a ⊢
  rw [e1, e2]
  exact a
theorem SHX.eq {h h' : Hp} {sh : Sh} (a : SHX h sh) (e : ∀ k, 23 ≤ k → k < 32 → h' k = h k) : SHX h' sh :=
  ⟨by rw [e 23 (by decide) (by decide)]; exact a.1, fun s hs => (a.2 s hs).eq (e _ (by omega) (by omega)) (e _ (by omega) (by omega))⟩
theorem TB0.eq {h h' : Hp} {t a : Nat} (x : TB0 h t a) (e1 : h' t = h t) (e2 : h' a = h a) : TB0 h' t a := by
  obtain ⟨a1, a2, a3, a4⟩ := x
  exact ⟨a1, a2, by rw [e1]; exact a3, by rw [e2]; exact a4⟩
theorem TB.same {h h' : Hp} {t a n : Nat} {g : Nat → Nat → Bool} (x : TB h t a n g) (e1 : h' t = h t) (e2 : h' a = h a) : TB h' t a n g := by
  obtain ⟨a1, a2, a3, a4⟩ := x
  exact ⟨a1, a2, by rw [e1]; exact a3, by rw [e2]; exact a4⟩
/-- the class's cells, the reference's cells -/
abbrev CC32 : Nat → Prop := fun k => k < 32
abbrev MM32 : Nat → Prop := fun k => 32 ≤ k
theorem CX.tab {h h' : Hp} {n n' a : Nat} {g g' : Nat → Nat → Bool} {fd : Int32} {sh : Sh} (x : CX h n g a fd sh) (t : TB h' 1 2 n' g') (f : Fr (T2 1 2) h h') : CX h' n' g' a fd sh := by
  obtain ⟨a1, a2, a3, a4, a5, a6⟩ := x
  have e : ∀ k, k ≠ 1 → k ≠ 2 → h' k = h k := fun k h1 h2 => f k (by rintro (r | r); exact h1 r; exact h2 r)
  exact ⟨by rw [e 0 (by decide) (by decide)]; exact a1, t, a3.eq (e 3 (by decide) (by decide)) (e 4 (by decide) (by decide)), a4.eq (fun k _ _ => e k (by omega) (by omega)), a5.eq (fun k _ _ => e k (by omega) (by omega)), a6.eq (fun k _ _ => e k (by omega) (by omega))⟩
theorem CX.keep {h h' : Hp} {n a : Nat} {g : Nat → Nat → Bool} {fd : Int32} {sh : Sh} (x : CX h n g a fd sh) (f : Fr MM32 h h') : CX h' n g a fd sh := by
  obtain ⟨a1, a2, a3, a4, a5, a6⟩ := x
  have e : ∀ k, k < 32 → h' k = h k := fun k hk => f k (by omega)
  exact ⟨by rw [e 0 (by decide)]; exact a1, a2.same (e 1 (by decide)) (e 2 (by decide)), a3.eq (e 3 (by decide)) (e 4 (by decide)), a4.eq (fun k _ _ => e k (by omega)), a5.eq (fun k _ _ => e k (by omega)), a6.eq (fun k _ _ => e k (by omega))⟩
theorem CX.ok {h : Hp} {n a : Nat} {g : Nat → Nat → Bool} {fd : Int32} {sh : Sh} (x : CX h n g a fd sh) : (0 : Nat) < 47 ∧ ∃ fs, h 0 = .inr (4, fs) := ⟨by decide, _, x.1⟩
theorem T2C {k : Nat} (h : T2 1 2 k) : CC32 k := by rcases h with rfl | rfl <;> decide
/-! the reference -/
def MS0 (h : Hp) : Prop := (∃ f, h 34 = jA 100 f) ∧ (∃ f, h 35 = jA 100 f) ∧ (∃ f, h 36 = jA 100 f) ∧ (∃ f, h 37 = jA 11 f) ∧ (∃ f, h 38 = jA 11 f) ∧ (∃ f, h 39 = jA 11 f) ∧ (∃ f, h 40 = iA 7 f) ∧ (∃ f, h 41 = iA 100 f) ∧ ∃ f, h 46 = iA 100 f
def MSs (fz ff fs fi : Nat → Int32) (s : Nat) (o : Option (Nat × Nat × (Nat → Int32))) : Prop := match o with
  | none => fz s = 0
  | some (fo, sz, it) => fz s = 1 ∧ ff s = nI fo ∧ fs s = nI sz ∧ ∀ i, i < sz → fi (100 * s + i) = it i
def MSH (h : Hp) (sh : Sh) : Prop := ∃ fz ff fs fi, h 42 = zA 4 fz ∧ h 43 = iA 4 ff ∧ h 44 = iA 4 fs ∧ h 45 = iA 400 fi ∧ ∀ s, s < 4 → MSs fz ff fs fi s (sh s)
def MX (h : Hp) (n : Nat) (g : Nat → Nat → Bool) (a : Nat) (fd : Int32) (sh : Sh) : Prop := h 32 = mo (nI n) (nI a) fd ∧ (∃ t, h 33 = iA 100 t ∧ TM t n g) ∧ MS0 h ∧ MSH h sh
theorem MS0.eq {h h' : Hp} (x : MS0 h) (e : ∀ k, 34 ≤ k → k < 47 → (k < 42 ∨ k = 46) → h' k = h k) : MS0 h' := by
  obtain ⟨a1, a2, a3, a4, a5, a6, a7, a8, a9⟩ := x
  refine ⟨?_, ?_, ?_, ?_, ?_, ?_, ?_, ?_, ?_⟩
  all_goals (first | (rw [e _ (by decide) (by decide) (by decide)]; assumption))
theorem MSH.eq {h h' : Hp} {sh : Sh} (x : MSH h sh) (e : ∀ k, 42 ≤ k → k < 46 → h' k = h k) : MSH h' sh := by
  obtain ⟨fz, ff, fs, fi, a1, a2, a3, a4, a5⟩ := x
  exact ⟨fz, ff, fs, fi, by rw [e 42 (by decide) (by decide)]; exact a1, by rw [e 43 (by decide) (by decide)]; exact a2, by rw [e 44 (by decide) (by decide)]; exact a3, by rw [e 45 (by decide) (by decide)]; exact a4, a5⟩
theorem MX.tab {h h' : Hp} {n n' a : Nat} {g g' : Nat → Nat → Bool} {fd : Int32} {sh : Sh} {t : Nat → Int32} (x : MX h n g a fd sh) (hm : h' 32 = mo (nI n') (nI a) fd) (ht : h' 33 = iA 100 t) (hT : TM t n' g') (f : Fr M2 h h') : MX h' n' g' a fd sh := by
  obtain ⟨a1, a2, a3, a4⟩ := x
  have e : ∀ k, k ≠ 32 → k ≠ 33 → h' k = h k := fun k h1 h2 => f k (by rintro (r | r); exact h1 r; exact h2 r)
  exact ⟨hm, ⟨t, ht, hT⟩, a3.eq (fun k _ _ _ => e k (by omega) (by omega)), a4.eq (fun k _ _ => e k (by omega) (by omega))⟩
theorem MX.keep {h h' : Hp} {n a : Nat} {g : Nat → Nat → Bool} {fd : Int32} {sh : Sh} (x : MX h n g a fd sh) (f : Fr CC32 h h') : MX h' n g a fd sh := by
  obtain ⟨a1, a2, a3, a4⟩ := x
  have e : ∀ k, 32 ≤ k → h' k = h k := fun k hk => f k (by omega)
  exact ⟨by rw [e 32 (by decide)]; exact a1, by rw [e 33 (by decide)]; exact a2, a3.eq (fun k _ _ _ => e k (by omega)), a4.eq (fun k _ _ => e k (by omega))⟩
theorem M2C {k : Nat} (h : M2 k) : MM32 k := by rcases h with rfl | rfl <;> decide
/-- both answer r and go on alike -/
def OpI (mx mm : MI) (as : List Value) (n : Nat) (g : Nat → Nat → Bool) (a : Nat) (fd : Int32) (sh : Sh) : Prop := ∃ (r : Int32) (n' : Nat) (g' : Nat → Nat → Bool) (a' : Nat) (fd' : Int32) (sh' : Sh), Gd n' g' a' sh' ∧
  (∀ (d : Nat) (h : Hp) (P : Int32 → Hp → Prop), CX h n g a fd sh → (∀ h', CX h' n' g' a' fd' sh' → Fr CC32 h h' → P r h') → CI mx (d + 20) (.ref 0 :: as) h P) ∧
  (∀ (d : Nat) (h : Hp) (P : Int32 → Hp → Prop), MX h n g a fd sh → (∀ h', MX h' n' g' a' fd' sh' → Fr MM32 h h' → P r h') → CI mm (d + 20) (.ref 32 :: as) h P)
def OpJ (mx mm : MI) (as : List Value) (n : Nat) (g : Nat → Nat → Bool) (a : Nat) (fd : Int32) (sh : Sh) : Prop := ∃ (r : Int64) (n' : Nat) (g' : Nat → Nat → Bool) (a' : Nat) (fd' : Int32) (sh' : Sh), Gd n' g' a' sh' ∧
  (∀ (d : Nat) (h : Hp) (P : Int64 → Hp → Prop), CX h n g a fd sh → (∀ h', CX h' n' g' a' fd' sh' → Fr CC32 h h' → P r h') → CJ mx (d + 20) (.ref 0 :: as) h P) ∧
  (∀ (d : Nat) (h : Hp) (P : Int64 → Hp → Prop), MX h n g a fd sh → (∀ h', MX h' n' g' a' fd' sh' → Fr MM32 h h' → P r h') → CJ mm (d + 20) (.ref 32 :: as) h P)
def isL (n : Nat) (x : Int32) : Bool := decide (0 ≤ x ∧ x < nI n)
theorem isL_t {n : Nat} (hn : n ≤ 10) {x : Int32} (h : isL n x = true) : ∃ i, i < n ∧ x = nI i := by
  unfold isL at h
  have h := of_decide_eq_true h
  rcases pk_ix x (n := n) (by omega) with q | q | q
  · exact absurd h.1 (Int32.not_le.mpr q)
  · exact absurd h.2 (Int32.not_lt.mpr q)
  · exact q
theorem isL_i {n i : Nat} (hn : n ≤ 10) (hi : i < n) : isL n (nI i) = true := by
  unfold isL
  have h1 : (0 : Int32) ≤ nI i := nI_pos' (by omega)
  have h2 : nI i < nI n := nI_lt hi (by omega)
  simp [h1, h2]
theorem g0 {h : Hp} {n a : Nat} {g : Nat → Nat → Bool} {fd : Int32} {sh : Sh} (x : CX h n g a fd sh) : gR h 4 0 0 = some 1 := gR_o (by decide) x.1 rfl
theorem gsz {h : Hp} {n a : Nat} {g : Nat → Nat → Bool} {fd : Int32} {sh : Sh} (x : CX h n g a fd sh) : gI h 3 1 1 = some (nI n) := gI_o (by decide) x.2.1.2.2.1 rfl
theorem gan {h : Hp} {n a : Nat} {g : Nat → Nat → Bool} {fd : Int32} {sh : Sh} (x : CX h n g a fd sh) : gI h 4 0 5 = some (nI a) := gI_o (by decide) x.1 rfl
theorem m0 {h : Hp} {n a : Nat} {g : Nat → Nat → Bool} {fd : Int32} {sh : Sh} (x : MX h n g a fd sh) : gI h 5 32 0 = some (nI n) := gI_o (by decide) x.1 rfl
theorem man {h : Hp} {n a : Nat} {g : Nat → Nat → Bool} {fd : Int32} {sh : Sh} (x : MX h n g a fd sh) : gI h 5 32 2 = some (nI a) := gI_o (by decide) x.1 rfl
theorem m1 {h : Hp} {n a : Nat} {g : Nat → Nat → Bool} {fd : Int32} {sh : Sh} (x : MX h n g a fd sh) : gR h 5 32 1 = some 33 := gR_o (by decide) x.1 rfl
/-! ===== lines, sign, at, turn, change, odd, together ===== -/
theorem op_lines {n a : Nat} {g : Nat → Nat → Bool} {fd : Int32} {sh : Sh} (G : Gd n g a sh) (x : Int32) : OpI M_X4_lines M_X5_lines [.int x] n g a fd sh := by
  obtain ⟨hn, hg, ha, hs⟩ := G
  rcases pk_ix x (n := 11) (by decide) with q | q | ⟨m, hm, rfl⟩
  · refine ⟨-2, n, g, a, fd, sh, ⟨hn, hg, ha, hs⟩, fun d h P hC hP => ?_, fun d h P hM hP => ?_⟩
    · exact e_X4_lines hC.ok (e_X4_isLineCount ⟨fun _ => ⟨fun c => absurd rfl c, fun _ => hP h hC Fr.rf⟩, fun c => absurd q c⟩)
    · refine e_X5_lines (mo_ok hM.1) (s_in (bz (fun c => ?_) (fun _ => hP h hM Fr.rf)))
      exact absurd (of_decide_eq_true c).1 (Int32.not_le.mpr q)
  · have q' : (10 : Int32) < x := by
      rw [Int32.lt_iff_toInt_lt]
      rw [Int32.le_iff_toInt_le, nI_toInt (by decide)] at q
      have : (10 : Int32).toInt = 10 := by decide
      omega
    refine ⟨-2, n, g, a, fd, sh, ⟨hn, hg, ha, hs⟩, fun d h P hC hP => ?_, fun d h P hM hP => ?_⟩
    · refine e_X4_lines hC.ok (e_X4_isLineCount ⟨fun _ => ⟨fun c => absurd rfl c, fun _ => hP h hC Fr.rf⟩, fun c => ⟨fun _ => ⟨fun c => absurd rfl c, fun _ => hP h hC Fr.rf⟩, fun c => absurd q' c⟩⟩)
    · refine e_X5_lines (mo_ok hM.1) (s_in (bz (fun c => ?_) (fun _ => hP h hM Fr.rf)))
      exact absurd (of_decide_eq_true c).2 (Int32.not_le.mpr q')
  · refine ⟨nI n, m, fun _ _ => false, a, fd, sh, ⟨by omega, wf_no m, ha, hs⟩, fun d h P hC hP => ?_, fun d h P hM hP => ?_⟩
    · refine e_X4_lines hC.ok (e_X4_isLineCount (pk_lt m 0 (fun c => absurd c (by omega)) (fun c => pk_lt 10 m (fun c => absurd c (by omega)) (fun c => ⟨fun _ => ?_, fun c => absurd c (by decide)⟩))))
      exact ⟨1, g0 hC, nI n, gsz hC, 1, g0 hC, s_start hC.2.1.t0 (fun h' hT hF => hP h' (hC.tab hT hF) (hF.mono (fun _ => T2C)))⟩
    · obtain ⟨t, ht, hT⟩ := hM.2.1
      exact s_linesM (by omega) hM.1 ht hT.1 (fun h' t' e1 e2 e3 e4 => hP h' (hM.tab e1 e2 e3 e4) (e4.mono (fun _ => M2C)))
theorem s_areTwo {d : Nat} {P : Int32 → Hp → Prop} {h : Hp} {n a : Nat} {g : Nat → Nat → Bool} {fd x y : Int32} {sh : Sh} (hC : CX h n g a fd sh) (hP : P (b2i (isL n x && isL n y && !decide (x = y))) h) : CI M_X4_areTwoLines (d + 2) [.ref 0, .int x, .int y] h P := by
  refine e_X4_areTwoLines hC.ok ⟨1, g0 hC, s_hasLine hC.2.1 (zb (fun c => ?_) (fun c => ⟨1, g0 hC, s_hasLine hC.2.1 (zb (fun c2 => ?_) (fun c2 => ⟨fun c3 => ?_, fun c3 => ?_⟩))⟩))⟩
  · rw [show isL n x = false from c] at hP; exact hP
  · rw [show isL n y = false from c2, Bool.and_false] at hP; exact hP
  · rw [show decide (x = y) = true by simp [c3], Bool.not_true, Bool.and_false] at hP; exact hP
  · rw [show isL n x = true from c, show isL n y = true from c2, show decide (x = y) = false by simp [c3]] at hP; exact hP
