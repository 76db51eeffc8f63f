/-! ===== take ===== -/
def ST (h : Hp) (n a : Nat) (E : Nat → Int) (R : Nat → Nat → Nat → Int) (K L : Nat) : Prop := h 5 = so (nI n) (nI a) ∧ (∃ f, h 6 = jA 12 f ∧ ∀ i, i < K → f i = oL (E i)) ∧ h 7 = qA 4 11 (fun i => if i < 11 then some (9 + i) else none) ∧ (∃ f, h 8 = jA 11 f) ∧ ∀ i, i < 11 → ∃ f, h (9 + i) = jA 100 f ∧ (i < L → ∀ x y, x < n → y < n → f (n * x + y) = oL (R i x y))
theorem ST.sm0 {h : Hp} {n a K L : Nat} {E : Nat → Int} {R : Nat → Nat → Nat → Int} (s : ST h n a E R K L) : SM0 h := by
  obtain ⟨a1, ⟨f, a2, -⟩, a3, a4, a5⟩ := s
  exact ⟨⟨_, _, a1⟩, ⟨f, a2⟩, a3, a4, fun i hi => by obtain ⟨f, b1, -⟩ := a5 i hi; exact ⟨f, b1⟩⟩
abbrev S15 : Nat → Prop := fun k => 5 ≤ k ∧ k < 20
theorem CX.sums {h h' : Hp} {n a : Nat} {g : Nat → Nat → Bool} {fd : Int32} {sh : Sh} (x : CX h n g a fd sh) (hN : SM0 h') (f : Fr S15 h h') : CX h' n g a fd sh := by
  obtain ⟨a1, a2, a3, a4, a5, a6⟩ := x
  have e : ∀ k, k < 5 ∨ 20 ≤ k → h' k = h k := fun k hk => f k (by omega)
  exact ⟨by rw [e 0 (by omega)]; exact a1, a2.same (e 1 (by omega)) (e 2 (by omega)), a3.eq (e 3 (by omega)) (e 4 (by omega)), hN, a5.eq (fun k _ _ => e k (by omega)), a6.eq (fun k _ _ => e k (by omega))⟩
theorem S15C {k : Nat} (h : S15 k) : CC32 k := by have := h.2; show k < 32; omega
theorem lQ9 {h : Hp} {i : Nat} (h7 : h 7 = qA 4 11 (fun i => if i < 11 then some (9 + i) else none)) (hi : i < 11) : lQ 4 h 7 (nI i) = some (9 + i) := lQ_o (by decide) h7 hi (by rw [if_pos hi])
theorem s_take {d : Nat} {P : Hp → Prop} {h : Hp} {n a : Nat} {g : Nat → Nat → Bool} {E : Nat → Int} {R : Nat → Nat → Nat → Int} (hn : n ≤ 10) (ha : a ≤ 9) (hg : WF n g) (hT : TB h 1 2 n g) (hS : SM0 h) (hE : FS n (Am a g) E R) (hP : ∀ h', ST h' n a E R (n + 2) (n + 1) → Fr S15 h h' → P h') : CV M_X2_take (d + 3) [.ref 5, .ref 1, .int (nI a)] h P := by
  obtain ⟨⟨x0, y0, s5⟩, ⟨f6, s6⟩, s7, ⟨f8, s8⟩, s9⟩ := hS
  have hd := FS.deg n (Am_sy hg) hE
  have hb := hE.bd hn (fun i hi => Am_row ha hn i hi) 10 (by omega)
  have loop : ∀ (e k : Nat) (h1 : Hp), k + e = n + 1 → 1 ≤ k → ST h1 n a E R k k → Fr S15 h h1 → L_X2_take_32 (d + 2) P h1 5 1 (nI k) := by
    intro e
    induction e with
    | zero =>
      intro k h1 hk h1k hS1 hF
      have : k = n + 1 := by omega
      subst this
      obtain ⟨q5, ⟨f, q6, q6'⟩, q7, q8, q9⟩ := hS1
      refine r_X2_take_32 ⟨nI n, gI_o (by decide) q5 rfl, pk_lt n (n + 1) (fun _ => ⟨6, gR_o (by decide) q5 rfl, nI n, gI_o (by decide) q5 rfl, ?_⟩) (fun c => absurd c (by omega))⟩
      rw [nI1]
      refine ⟨_, sJ_o (by decide) q6 (by omega), hP _ ⟨by rw [hu_n (by decide)]; exact q5, ⟨_, hu_s, fun i hi => ?_⟩, by rw [hu_n (by decide)]; exact q7, by rw [hu_n (by decide)]; exact q8, fun i hi => by rw [hu_n (by omega)]; exact q9 i hi⟩ (hF.tr (Fr.hu (S := S15) (by decide)))⟩
      by_cases r : i = n + 1
      · rw [r, vp_s, hd.2 (n + 1) (by omega)]; rfl
      · rw [vp_n r]; exact q6' i (by omega)
    | succ e ih =>
      intro k h1 hk h1k hS1 hF
      obtain ⟨q5, ⟨f, q6, q6'⟩, q7, q8, q9⟩ := hS1
      obtain ⟨k', rfl⟩ : ∃ k', k = k' + 1 := ⟨k - 1, by omega⟩
      obtain ⟨fa, qa, qa'⟩ := q9 k' (by omega)
      obtain ⟨fb, qb, -⟩ := q9 (k' + 1) (by omega)
      refine r_X2_take_32 ⟨nI n, gI_o (by decide) q5 rfl, pk_lt n (k' + 1) (fun c => absurd c (by omega)) (fun _ => ⟨7, gR_o (by decide) q5 rfl, 9 + k', ?_, 7, gR_o (by decide) q5 rfl, 9 + (k' + 1), lQ9 q7 (by omega), ?_⟩)⟩
      · rw [show nI (k' + 1) - 1 = nI k' from nI_pred k']; exact lQ9 q7 (by omega)
      have hT1 : TB h1 1 2 n g := hT.same (hF 1 (by omega)) (hF 2 (by omega))
      refine s_multiply hn ha (by omega) (by omega) (by omega) (by omega) q5 qa qb (qa' (by omega)) hT1 (fun h2 f2 m1 m2 m3 => ?_)
      have p5 : h2 5 = so (nI n) (nI a) := by rw [m3 5 (by omega)]; exact q5
      have p7 : h2 7 = qA 4 11 (fun i => if i < 11 then some (9 + i) else none) := by rw [m3 7 (by omega)]; exact q7
      refine ⟨6, gR_o (by decide) p5 rfl, 7, gR_o (by decide) p5 rfl, 9 + (k' + 1), lQ9 p7 (by omega), s_trace (R := fun i j => sm (fun k => Am a g i k * R k' k j) n) hn (by omega) p5 m1 m2 ?_⟩
      rw [oL_n (k' + 1) (by omega), ← hE.nw k', show ((k' : Int) + 1) * E (k' + 1) = ((k' + 1 : Nat) : Int) * E (k' + 1) by rw [show ((k' + 1 : Nat) : Int) = (k' : Int) + 1 by omega], oL_div (by omega) (by omega) (hb (k' + 1) (by omega)).2]
      have p6 : h2 6 = jA 12 f := by rw [m3 6 (by omega)]; exact q6
      refine ⟨oL_ne0 (by omega) (by omega), _, sJ_o (by decide) p6 (by omega), 6, gR_o (by decide) (by rw [hu_n (by decide)]; exact p5) rfl, _, lJ_o (by decide) hu_s (by omega), 7, gR_o (by decide) (by rw [hu_n (by decide)]; exact p5) rfl, 9 + (k' + 1), lQ9 (by rw [hu_n (by decide)]; exact p7) (by omega), ?_⟩
      rw [vp_s]
      refine s_takeFrom (R := fun i j => sm (fun k => Am a g i k * R k' k j) n) hn (by omega) (by rw [hu_n (by decide)]; exact p5) (by rw [hu_n (by omega)]; exact m1) m2 (fun h3 f3 n1 n2 n3 => ?_)
      rw [nI1]
      have g3 : ∀ j, j ≠ 9 + (k' + 1) → j ≠ 6 → h3 j = h1 j := fun j hj hj6 => by rw [n3 j hj, hu_n hj6, m3 j hj]
      refine ih (k' + 1 + 1) h3 (by omega) (by omega) ⟨by rw [g3 5 (by omega) (by omega)]; exact q5, ⟨_, by rw [n3 6 (by omega)]; exact hu_s, fun i hi => ?_⟩, by rw [g3 7 (by omega) (by omega)]; exact q7, by rw [g3 8 (by omega) (by omega)]; exact q8, fun i hi => ?_⟩ (hF.tr (((m3.mono (fun j hj => by show 5 ≤ j ∧ j < 20; omega)).tr (Fr.hu (S := S15) (by decide))).tr (n3.mono (fun j hj => by show 5 ≤ j ∧ j < 20; omega))))
      · by_cases r : i = k' + 1
        · rw [r, vp_s]
        · rw [vp_n r]; exact q6' i (by omega)
      · by_cases r : i = k' + 1
        · subst r
          refine ⟨f3, n1, fun _ x y hx hy => ?_⟩
          rw [n2 x y hx hy, hE.2.1.2 k' x y hx hy]
        · rw [g3 (9 + i) (by omega) (by omega)]
          obtain ⟨fc, c1, c2⟩ := q9 i hi
          exact ⟨fc, c1, fun hl => c2 (by omega)⟩
  refine e_X2_take ⟨by decide, _, s5⟩ ⟨nI n, gI_o hT.1 hT.2.2.1 rfl, _, sF_o (by decide) s5 (by simp), _, sF_o (by decide) hu_s (by simp), ?_⟩
  have p5 : hu (hu h 5 (ob 2 ([Value.ref 6, Value.ref 7, Value.ref 8, Value.int x0, Value.int y0].set 3 (Value.int (nI n))))) 5 (ob 2 (([Value.ref 6, Value.ref 7, Value.ref 8, Value.int x0, Value.int y0].set 3 (Value.int (nI n))).set 4 (Value.int (nI a)))) 5 = so (nI n) (nI a) := hu_s
  have p6 : hu (hu h 5 (ob 2 ([Value.ref 6, Value.ref 7, Value.ref 8, Value.int x0, Value.int y0].set 3 (Value.int (nI n))))) 5 (ob 2 (([Value.ref 6, Value.ref 7, Value.ref 8, Value.int x0, Value.int y0].set 3 (Value.int (nI n))).set 4 (Value.int (nI a)))) 6 = jA 12 f6 := by rw [hu_n (by decide), hu_n (by decide)]; exact s6
  refine ⟨6, gR_o (by decide) p5 rfl, _, sJ_o (i := 0) (by decide) p6 (by decide), 7, gR_o (by decide) (by rw [hu_n (by decide)]; exact p5) rfl, 9, lQ9 (i := 0) (by rw [hu_n (by decide), hu_n (by decide), hu_n (by decide)]; exact s7) (by decide), ?_⟩
  obtain ⟨f9, e9⟩ := s9 0 (by decide)
  refine s_setUnit (f := f9) hn (by decide) (by rw [hu_n (by decide)]; exact p5) (by rw [hu_n (by decide), hu_n (by decide), hu_n (by decide)]; exact e9) (fun h2 f2 m1 m2 m3 => ?_)
  have g3 : ∀ j, j ≠ 9 → j ≠ 6 → j ≠ 5 → h2 j = h j := fun j h9 h6 h5 => by rw [m3 j h9, hu_n h6, hu_n h5, hu_n h5]
  refine loop n 1 h2 (by omega) (by omega) ⟨by rw [m3 5 (by decide), hu_n (by decide)]; exact p5, ⟨_, by rw [m3 6 (by decide)]; exact hu_s, fun i hi => ?_⟩, by rw [g3 7 (by decide) (by decide) (by decide)]; exact s7, by rw [g3 8 (by decide) (by decide) (by decide)]; exact ⟨f8, s8⟩, fun i hi => ?_⟩ (fun j hj => g3 j (by omega) (by omega) (by omega))
  · have : i = 0 := by omega
    subst this
    rw [vp_s, hE.1]; rfl
  · by_cases r : i = 0
    · subst r
      exact ⟨f2, m1, fun _ x y hx hy => by rw [m2 x y hx hy, hE.2.1.1 x y hx hy, hE.1, Int.one_mul]⟩
    · rw [g3 (9 + i) (by omega) (by omega) (by omega)]
      obtain ⟨fc, c1⟩ := s9 i hi
      exact ⟨fc, c1, fun hl => absurd hl (by omega)⟩
/-! ===== letsIn ===== -/
theorem g2 {h : Hp} {n a : Nat} {g : Nat → Nat → Bool} {fd : Int32} {sh : Sh} (x : CX h n g a fd sh) : gR h 4 0 2 = some 5 := gR_o (by decide) x.1 rfl
