/-! ===== the reference's numberings: order at 40 ===== -/
def Ord (f : Nat → Int32) (n : Nat) (l : List Nat) : Prop := l.length = n ∧ ∀ i, i < n → f i = nI (fnL l i) ∧ fnL l i < 100
abbrev O1 : Nat → Prop := fun k => k = 40
theorem s_begin {d : Nat} {P : Hp → Prop} {h : Hp} {n : Nat} {m a fd : Int32} {f : Nat → Int32} (hn : n ≤ 7) (hm : h 32 = mo m a fd) (hf : h 40 = iA 7 f) (hP : ∀ h' f', h' 40 = iA 7 f' → Ord f' n (List.range n) → Fr O1 h h' → P h') : CV M_X5_begin (d + 1) [.ref 32, .int (nI n)] h P := by
  have loop : ∀ (e k : Nat) (h1 : Hp) (f1 : Nat → Int32), k + e = n → h1 32 = mo m a fd → h1 40 = iA 7 f1 → (∀ i, i < k → f1 i = nI i) → Fr O1 h h1 → L_X5_begin_2 d P h1 32 (nI n) (nI k) := by
    intro e
    induction e with
    | zero =>
      intro k h1 f1 hk hm1 hf1 hid hF
      refine r_X5_begin_2 (pk_le n k (fun _ => hP h1 f1 hf1 ⟨by simp, fun i hi => ?_⟩ hF) (fun c => absurd c (by omega)))
      have : fnL (List.range n) i = i := by unfold fnL; simp [hi]
      rw [this]; exact ⟨hid i (by omega), by omega⟩
    | succ e ih =>
      intro k h1 f1 hk hm1 hf1 hid hF
      refine r_X5_begin_2 (pk_le n k (fun c => absurd c (by omega)) (fun _ => ⟨40, gR_o (by decide) hm1 rfl, _, sI_o (by decide) hf1 (by omega), ?_⟩))
      rw [nI1]
      refine ih (k + 1) _ _ (by omega) (by rw [hu_n (by decide)]; exact hm1) hu_s (fun i hi => ?_) (hF.tr (Fr.hu (S := O1) rfl))
      by_cases r : i = k
      · subst r; rw [pk_us]
      · rw [pk_un r]; exact hid i (by omega)
  exact e_X5_begin (mo_ok hm) (loop n 0 h f (by omega) hm hf (fun i hi => absurd hi (by omega)) Fr.rf)
theorem s_signBy {d : Nat} {P : Int32 → Hp → Prop} {h : Hp} {n i j : Nat} {m a fd : Int32} {f t : Nat → Int32} {g : Nat → Nat → Bool} {l : List Nat} (hn : n ≤ 7) (hm : h 32 = mo m a fd) (hf : h 40 = iA 7 f) (ht : h 33 = iA 100 t) (hT : TM t n g) (hO : Ord f n l) (hq : Pm n (fnL l)) (hi : 0 < i) (hij : i < j) (hj : j < n) (hP : P (pm (cc g (fnL l) i j)) h) : CI M_X5_signBy (d + 1) [.ref 32, .int (nI i), .int (nI j)] h P := by
  have o := hO.2
  have hl := hq.1
  have ne : ∀ x y, x < n → y < n → x ≠ y → fnL l x ≠ fnL l y := fun x y hx hy hxy e => hxy (hq.2 x y hx hy e)
  refine e_X5_signBy (mo_ok hm) ⟨40, gR_o (by decide) hm rfl, f i, lI_o (by decide) hf (by omega), 40, gR_o (by decide) hm rfl, f j, lI_o (by decide) hf (by omega), 40, gR_o (by decide) hm rfl, f 0, lI_o (i := 0) (by decide) hf (by decide), ?_⟩
  have h0 := hl 0 (by omega)
  have h1 := hl i (by omega)
  have h2 := hl j hj
  rw [(o i (by omega)).1, (o j hj).1, (o 0 (by omega)).1, l10, l10, l10]
  refine ⟨33, gR_o (by decide) hm rfl, _, lI_o (by decide) ht (by omega), 33, gR_o (by decide) hm rfl, _, lI_o (by decide) ht (by omega), 33, gR_o (by decide) hm rfl, _, lI_o (by decide) ht (by omega), ?_⟩
  rw [hT.2 _ _ h1 h2 (ne i j (by omega) hj (by omega)), hT.2 _ _ h0 h1 (ne 0 i (by omega) (by omega) (by omega)), hT.2 _ _ h0 h2 (ne 0 j (by omega) hj (by omega)), pm_mul, pm_mul]
  exact hP
theorem bop_end : ∀ j, j < 8 → 2 ≤ j → bop j j = bop 1 (j + 1) := by decide +kernel
theorem bop_sc {i j : Nat} (h : 1 ≤ i) : bop i j + 1 = bop (i + 1) j := by unfold bop; omega
theorem s_codeOf {d : Nat} {P : Int32 → Hp → Prop} {h : Hp} {n : Nat} {m a fd : Int32} {f t : Nat → Int32} {g : Nat → Nat → Bool} {l : List Nat} (hn : n ≤ 7) (hm : h 32 = mo m a fd) (hf : h 40 = iA 7 f) (ht : h 33 = iA 100 t) (hT : TM t n g) (hO : Ord f n l) (hq : Pm n (fnL l)) (hP : ∀ z, Pc n g (fnL l) 0 z → P z h) : CI M_X5_codeOf (d + 2) [.ref 32, .int (nI n)] h P := by
  have outer : ∀ (e J : Nat) (z : Int32), (J + e = n ∨ (n < J ∧ J = 2)) → 2 ≤ J → (∀ k, k < 32 → (bt z k = true ↔ ∃ i j, 0 < i ∧ i < j ∧ j < n ∧ j < J ∧ bop i j = k ∧ cc g (fnL l) i j = true)) → L_X5_codeOf_7 (d + 1) P h 32 (nI n) z (nI (bop 1 J)) (nI J) := by
    intro e
    induction e with
    | zero =>
      intro J z hJ h2 hz
      refine r_X5_codeOf_7 (pk_le n J (fun _ => hP z (fun k hk => (hz k hk).trans ⟨?_, ?_⟩)) (fun c => absurd c (by omega)))
      · rintro ⟨i, j, a1, a2, a3, a4, a5⟩; exact ⟨i, j, a1, a2, a3, a5⟩
      · rintro ⟨i, j, a1, a2, a3, a5⟩; exact ⟨i, j, a1, a2, a3, by omega, a5⟩
    | succ e ih =>
      intro J z hJ h2 hz
      by_cases hlt : n ≤ J
      · refine r_X5_codeOf_7 (pk_le n J (fun _ => hP z (fun k hk => (hz k hk).trans ⟨?_, ?_⟩)) (fun c => absurd c (by omega)))
        · rintro ⟨i, j, a1, a2, a3, a4, a5⟩; exact ⟨i, j, a1, a2, a3, a5⟩
        · rintro ⟨i, j, a1, a2, a3, a5⟩; exact ⟨i, j, a1, a2, a3, by omega, a5⟩
      · refine r_X5_codeOf_7 (pk_le n J (fun c => absurd c hlt) (fun _ => ?_))
        have inner : ∀ (e2 I : Nat) (z : Int32), I + e2 = J → 1 ≤ I → (∀ k, k < 32 → (bt z k = true ↔ ∃ i j, 0 < i ∧ i < j ∧ j < n ∧ (j < J ∨ (j = J ∧ i < I)) ∧ bop i j = k ∧ cc g (fnL l) i j = true)) → L_X5_codeOf_16 (d + 1) P h 32 (nI n) z (nI (bop I J)) (nI J) (nI I) := by
          intro e2
          induction e2 with
          | zero =>
            intro I z hI h1 hz
            refine r_X5_codeOf_16 (pk_le J I (fun _ => ?_) (fun c => absurd c (by omega)))
            have : I = J := by omega
            subst this
            rw [nI1, bop_end I (by omega) h2]
            refine ih (I + 1) z (by omega) (by omega) (fun k hk => (hz k hk).trans ⟨?_, ?_⟩)
            · rintro ⟨i, j, a1, a2, a3, a4, a5⟩; exact ⟨i, j, a1, a2, a3, by omega, a5⟩
            · rintro ⟨i, j, a1, a2, a3, a4, a5⟩; exact ⟨i, j, a1, a2, a3, by omega, a5⟩
          | succ e2 ih2 =>
            intro I z hI h1 hz
            have hb := bop_lt h1 (show I < J by omega) (by omega)
            refine r_X5_codeOf_16 (pk_le J I (fun c => absurd c (by omega)) (fun _ => s_signBy hn hm hf ht hT hO hq (by omega) (by omega) (by omega) ?_))
            rw [pm_ge, nI1, nI1, bop_sc h1]
            refine ⟨fun q => ih2 (I + 1) _ (by omega) (by omega) (fun k hk => ?_), fun q => ih2 (I + 1) _ (by omega) (by omega) (fun k hk => ?_)⟩
            · rw [b_or, b_0, Bool.or_false]
              refine (hz k hk).trans ⟨?_, ?_⟩
              · rintro ⟨i, j, a1, a2, a3, a4, a5⟩; exact ⟨i, j, a1, a2, a3, by omega, a5⟩
              · rintro ⟨i, j, a1, a2, a3, a4, a5, a6⟩
                refine ⟨i, j, a1, a2, a3, ?_, a5, a6⟩
                rcases a4 with a4 | ⟨rfl, a4⟩
                · exact Or.inl a4
                · refine Or.inr ⟨rfl, ?_⟩
                  have : i ≠ I := fun r => by rw [r, q] at a6; cases a6
                  omega
            · have q' : cc g (fnL l) I J = true := by cases hb : cc g (fnL l) I J <;> simp [hb] at q ⊢
              rw [b_or, bt_one (by omega) hk, Bool.or_eq_true, hz k hk]
              constructor
              · rintro (⟨i, j, a1, a2, a3, a4, a5⟩ | r)
                · exact ⟨i, j, a1, a2, a3, by omega, a5⟩
                · exact ⟨I, J, by omega, by omega, by omega, by omega, (of_decide_eq_true r).symm, q'⟩
              · rintro ⟨i, j, a1, a2, a3, a4, a5, a6⟩
                by_cases r : i = I ∧ j = J
                · rw [r.1, r.2] at a5; exact Or.inr (decide_eq_true a5.symm)
                · exact Or.inl ⟨i, j, a1, a2, a3, by omega, a5, a6⟩
        refine inner (J - 1) 1 z (by omega) (by omega) (fun k hk => (hz k hk).trans ⟨?_, ?_⟩)
        · rintro ⟨i, j, a1, a2, a3, a4, a5⟩; exact ⟨i, j, a1, a2, a3, by omega, a5⟩
        · rintro ⟨i, j, a1, a2, a3, a4, a5⟩; exact ⟨i, j, a1, a2, a3, by omega, a5⟩
  refine e_X5_codeOf (mo_ok hm) ?_
  refine outer (n - 2) 2 0 (by omega) (by omega) (fun k _ => ?_)
  rw [b_0]
  exact ⟨fun c => absurd c (by decide), fun ⟨i, j, a1, a2, a3, a4, _⟩ => absurd a1 (by omega)⟩
/-! ===== the next numbering ===== -/
theorem fnL_set {l : List Nat} {a v i : Nat} (ha : a < l.length) : fnL (l.set a v) i = if i = a then v else fnL l i := by
  unfold fnL
  rw [List.getD_eq_getElem?_getD, List.getElem?_set, List.getD_eq_getElem?_getD]
  by_cases q : a = i
  · subst q; simp [ha]
  · rw [if_neg q, if_neg (fun r => q r.symm)]
theorem Ord.sw {f : Nat → Int32} {n x y : Nat} {l : List Nat} (h : Ord f n l) (hx : x < n) (hy : y < n) : Ord (upd (upd f x (f y)) y (f x)) n (swL l x y) := by
  refine ⟨by unfold swL; simp [h.1], fun i hi => ?_⟩
  unfold swL
  rw [fnL_set (by rw [List.length_set, h.1]; exact hy), fnL_set (by rw [h.1]; exact hx)]
  show upd (upd f x (f y)) y (f x) i = nI (if i = y then fnL l x else if i = x then fnL l y else fnL l i) ∧ (if i = y then fnL l x else if i = x then fnL l y else fnL l i) < 100
  unfold upd
  by_cases q : i = y
  · rw [if_pos q, if_pos q]; exact h.2 x hx
  · rw [if_neg q, if_neg q]
    by_cases q2 : i = x
    · rw [if_pos q2, if_pos q2]; exact h.2 y hy
    · rw [if_neg q2, if_neg q2]; exact h.2 i hi
theorem l_rev {d : Nat} {P : Int32 → Hp → Prop} {n : Nat} {m a fd : Int32} (hn : n ≤ 7) (h0 : Hp) : ∀ (e x y : Nat) (h : Hp) (f : Nat → Int32) (l : List Nat), y < n → x ≤ n → y < x + e → h 32 = mo m a fd → h 40 = iA 7 f → Ord f n l → Fr O1 h0 h → (∀ h' f', h' 40 = iA 7 f' → Ord f' n (rvL e x y l) → Fr O1 h0 h' → P 1 h') → L_X5_step_100 d P h 32 (nI x) (nI y) := by
  intro e
  induction e with
  | zero =>
    intro x y h f l hy hxn hlt hm hf hO hF hP
    exact r_X5_step_100 ⟨fun _ => hP h f hf hO hF, fun c => absurd (nI_le (show y ≤ x by omega) (by omega)) c⟩
  | succ e ih =>
    intro x y h f l hy hxn hlt hm hf hO hF hP
    by_cases hxy : y ≤ x
    · refine r_X5_step_100 ⟨fun _ => hP h f hf ?_ hF, fun c => ?_⟩
      · unfold rvL; rw [if_pos hxy]; exact hO
      · exact absurd (nI_le hxy (by omega)) c
    · have hx7 : x < n := by omega
      refine r_X5_step_100 (pk_le y x (fun c => absurd c hxy) (fun _ => ⟨40, gR_o (by decide) hm rfl, f x, lI_o (by decide) hf (by omega), 40, gR_o (by decide) hm rfl, 40, gR_o (by decide) hm rfl, f y, lI_o (by decide) hf (by omega), _, sI_o (by decide) hf (by omega), 40, gR_o (by decide) (by rw [hu_n (by decide)]; exact hm) rfl, _, sI_o (by decide) hu_s (by omega), ?_⟩))
      have e1 : nI y + (-1 : Int32) = nI (y - 1) := by
        obtain ⟨y', rfl⟩ : ∃ y', y = y' + 1 := ⟨y - 1, by omega⟩
        exact pk_m1 y'
      rw [nI1, e1]
      refine ih (x + 1) (y - 1) _ _ (swL l x y) (by omega) (by omega) (by omega) (by rw [hu_n (by decide), hu_n (by decide)]; exact hm) hu_s (hO.sw hx7 hy) ((hF.tr (Fr.hu (S := O1) rfl)).tr (Fr.hu (S := O1) rfl)) (fun h' f' q1 q2 q3 => hP h' f' q1 ?_ q3)
      unfold rvL; rw [if_neg hxy]; exact q2
theorem l_fj {d : Nat} {P : Int32 → Hp → Prop} {n i : Nat} {m a fd : Int32} {h : Hp} {f : Nat → Int32} {l : List Nat} (hn : n ≤ 7) (hm : h 32 = mo m a fd) (hf : h 40 = iA 7 f) (hO : Ord f n l) (hi : i + 1 < n) (hP : ∀ h' f', h' 40 = iA 7 f' → Ord f' n (rvL n (i + 1) (n - 1) (swL l i (fjL l (fnL l i) (n - 1)))) → Fr O1 h h' → P 1 h') :
    ∀ (k : Nat), k < n → i ≤ k → fjL l (fnL l i) (n - 1) = fjL l (fnL l i) k → L_X5_step_41 d P h 32 (nI n) (nI i) (nI k) := by
  have o := hO.2
  have fin : ∀ k, k < n → fjL l (fnL l i) (n - 1) = k → ∃ q5, gR h 5 32 9 = some q5 ∧ ∃ x6, lI h q5 (nI i) = some x6 ∧ ∃ q7, gR h 5 32 9 = some q7 ∧ ∃ q8, gR h 5 32 9 = some q8 ∧ ∃ x9, lI h q8 (nI k) = some x9 ∧ ∃ h10, sI h q7 (nI i) x9 = some h10 ∧ ∃ q11, gR h10 5 32 9 = some q11 ∧ ∃ h12, sI h10 q11 (nI k) x6 = some h12 ∧ L_X5_step_100 d P h12 32 (nI i + 1) (nI n - 1) := fun k hk he => by
    refine ⟨40, gR_o (by decide) hm rfl, f i, lI_o (by decide) hf (by omega), 40, gR_o (by decide) hm rfl, 40, gR_o (by decide) hm rfl, f k, lI_o (by decide) hf (by omega), _, sI_o (by decide) hf (by omega), 40, gR_o (by decide) (by rw [hu_n (by decide)]; exact hm) rfl, _, sI_o (by decide) hu_s (by omega), ?_⟩
    rw [nI1, show nI n - 1 = nI (n - 1) from pk_sub (a := n) (b := 1) (by omega)]
    refine l_rev (m := m) (a := a) (fd := fd) hn h n (i + 1) (n - 1) _ _ (swL l i k) (by omega) (by omega) (by omega) (by rw [hu_n (by decide), hu_n (by decide)]; exact hm) hu_s (hO.sw (by omega) hk) ((Fr.hu (S := O1) rfl).tr (Fr.hu (S := O1) rfl)) ?_
    rw [he] at hP
    exact hP
  intro k
  induction k with
  | zero =>
    intro hk hik he
    have hi0 : i = 0 := by omega
    subst hi0
    refine r_X5_step_41 ⟨40, gR_o (by decide) hm rfl, f 0, lI_o (by decide) hf (by omega), 40, gR_o (by decide) hm rfl, f 0, lI_o (by decide) hf (by omega), fun _ => fin 0 hk he, fun c => absurd (Int32.le_refl _) c⟩
  | succ k ih =>
    intro hk hik he
    refine r_X5_step_41 ⟨40, gR_o (by decide) hm rfl, f (k + 1), lI_o (by decide) hf (by omega), 40, gR_o (by decide) hm rfl, f i, lI_o (by decide) hf (by omega), ?_⟩
    rw [(o (k + 1) hk).1, (o i (by omega)).1]
    have b1 := (o (k + 1) hk).2
    have b2 := (o i (by omega)).2
    refine pk_le (fnL l i) (fnL l (k + 1)) (fun q => fin (k + 1) hk ?_) (fun q => ?_)
    · rw [he]; show (if fnL l i ≤ fnL l (k + 1) then k + 1 else fjL l (fnL l i) k) = _; rw [if_pos q]
    · have e1 : nI (k + 1) + (-1 : Int32) = nI k := pk_m1 k
      rw [e1]
      refine ih (by omega) ?_ ?_
      · have : i ≠ k + 1 := fun r => by rw [r] at q; omega
        omega
      · rw [he]; show (if fnL l i ≤ fnL l (k + 1) then k + 1 else fjL l (fnL l i) k) = _; rw [if_neg (by omega)]
theorem s_step {d : Nat} {P : Int32 → Hp → Prop} {h : Hp} {n : Nat} {m a fd : Int32} {f : Nat → Int32} {l : List Nat} (hn : n ≤ 7) (hm : h 32 = mo m a fd) (hf : h 40 = iA 7 f) (hO : Ord f n l) (h0 : nxL n l = none → P 0 h) (h1 : ∀ l', nxL n l = some l' → ∀ h' f', h' 40 = iA 7 f' → Ord f' n l' → Fr O1 h h' → P 1 h') : CI M_X5_step (d + 1) [.ref 32, .int (nI n)] h P := by
  have o := hO.2
  have loop : ∀ k, k < n → fiL l (n - 1) = fiL l k → L_X5_step_4 d P h 32 (nI n) (nI k + (-1 : Int32)) := by
    intro k
    induction k with
    | zero =>
      intro hk he
      have hnone : nxL n l = none := by unfold nxL; rw [he]; rfl
      refine r_X5_step_4 ⟨fun _ => ⟨fun c => absurd c (by decide), fun _ => h0 hnone⟩, fun c => absurd (by decide) c⟩
    | succ k ih =>
      intro hk he
      have e1 : nI (k + 1) + (-1 : Int32) = nI k := pk_m1 k
      rw [e1]
      have b1 := (o k (by omega)).2
      have b2 := (o (k + 1) hk).2
      refine r_X5_step_4 (pk_lt k 0 (fun c => absurd c (by omega)) (fun _ => ⟨40, gR_o (by decide) hm rfl, f k, lI_o (by decide) hf (by omega), 40, gR_o (by decide) hm rfl, f (k + 1), ?_, ?_⟩))
      · rw [nI1]; exact lI_o (by decide) hf (by omega)
      · rw [(o k (by omega)).1, (o (k + 1) hk).1]
        refine pk_le (fnL l k) (fnL l (k + 1)) (fun q => ⟨fun _ => ?_, fun c => absurd (nI_pos' (by omega)) c⟩) (fun q => ih (by omega) ?_)
        · have hs : fiL l (n - 1) = some k := by
            rw [he]; show (if fnL l k ≤ fnL l (k + 1) then some k else fiL l k) = _; rw [if_pos q]
          have hnx : nxL n l = some (rvL n (k + 1) (n - 1) (swL l k (fjL l (fnL l k) (n - 1)))) := by unfold nxL; rw [hs]; rfl
          rw [show nI n - 1 = nI (n - 1) from pk_sub (a := n) (b := 1) (by omega)]
          exact l_fj hn hm hf hO (by omega) (h1 _ hnx) (n - 1) (by omega) (by omega) rfl
        · rw [he]; show (if fnL l k ≤ fnL l (k + 1) then some k else fiL l k) = _; rw [if_neg (by omega)]
  refine e_X5_step (mo_ok hm) ?_
  by_cases hz : n = 0
  · subst hz
    refine r_X5_step_4 ⟨fun _ => ⟨fun c => absurd c (by decide), fun _ => h0 rfl⟩, fun c => absurd (by decide) c⟩
  · have e2 : nI n - (2 : Int32) = nI (n - 1) + (-1 : Int32) := by
      obtain ⟨n', rfl⟩ : ∃ n', n = n' + 1 := ⟨n - 1, by omega⟩
      rw [Nat.add_sub_cancel]
      rcases n' with _ | n'
      · decide
      · rw [pk_m1]; exact pk_sub (a := n' + 1 + 1) (b := 2) (by omega)
    rw [e2]
    exact loop (n - 1) (by omega) rfl
theorem s_nameOf {d : Nat} {P : Int32 → Hp → Prop} {h : Hp} {n : Nat} {m a fd : Int32} {f t : Nat → Int32} {g : Nat → Nat → Bool} (hn : n ≤ 7) (hm : h 32 = mo m a fd) (hf : h 40 = iA 7 f) (ht : h 33 = iA 100 t) (hT : TM t n g) (hP : ∀ r h' f', isMin n g r → h' 40 = iA 7 f' → Fr O1 h h' → P r h') : CI M_X5_nameOf (d + 3) [.ref 32, .int (nI n)] h P := by
  obtain ⟨hpg, hchk⟩ := chk_ok n hn
  have loop : ∀ (rest : List (List Nat)) (cur : List Nat) (best : Int32) (h1 : Hp) (f1 : Nat → Int32), chk n cur rest = true → h1 40 = iA 7 f1 → Ord f1 n cur → Fr O1 h h1 → (∃ q, Pm n q ∧ Pc n g q 0 best) → (∀ q z, Pm n q → Pc n g q 0 z → (∀ l, l ∈ rest → ¬ (∀ i, i < n → fnL l i = q i)) → best ≤ z) → L_X5_nameOf_11 (d + 2) P h1 32 (nI n) best := by
    intro rest
    induction rest with
    | nil =>
      intro cur best h1 f1 hc hf1 hO hF hb hall
      unfold chk at hc
      rw [Bool.and_eq_true] at hc
      have hm1 : h1 32 = mo m a fd := by rw [hF 32 (by decide)]; exact hm
      refine r_X5_nameOf_11 (s_step hn hm1 hf1 hO (fun _ => ⟨fun _ => hP best h1 f1 ⟨hb, fun q z hq hz => hall q z hq hz (fun l hl => absurd hl List.not_mem_nil)⟩ hf1 hF, fun c => absurd rfl c⟩) (fun l' hl' => ?_))
      rw [hl'] at hc; simp at hc
    | cons c rest ih =>
      intro cur best h1 f1 hc hf1 hO hF hb hall
      unfold chk at hc
      rw [Bool.and_eq_true, Bool.and_eq_true] at hc
      obtain ⟨-, hnx, hcr⟩ := hc
      have hnx := of_decide_eq_true hnx
      have hm1 : h1 32 = mo m a fd := by rw [hF 32 (by decide)]; exact hm
      refine r_X5_nameOf_11 (s_step hn hm1 hf1 hO (fun r => by rw [hnx] at r; cases r) (fun l' hl' h2 f2 q1 q2 q3 => ⟨fun r => absurd r (by decide), fun _ => ?_⟩))
      rw [hnx] at hl'
      cases hl'
      have hF2 := hF.tr q3
      have hok : okp n c = true := by
        cases rest with
        | nil => unfold chk at hcr; rw [Bool.and_eq_true] at hcr; exact hcr.1
        | cons _ _ => unfold chk at hcr; rw [Bool.and_eq_true] at hcr; exact hcr.1
      have hpm := (okp_pm hok).1
      refine s_codeOf hn (by rw [hF2 32 (by decide)]; exact hm) q1 (by rw [hF2 33 (by decide)]; exact ht) hT q2 hpm (fun z hz => ⟨fun c2 => ?_, fun c2 => ?_⟩)
      · refine ih c best h2 f2 hcr q1 q2 hF2 hb (fun q y hq hy hno => ?_)
        by_cases r : ∀ i, i < n → fnL c i = q i
        · have : y = z := hy.uniq (hz.cong (fun h0 => (r 0 h0).symm) (fun i hi _ => (r i hi).symm))
          rw [this]; exact c2
        · refine hall q y hq hy (fun l hl => ?_)
          rcases List.mem_cons.mp hl with rfl | hl
          · exact r
          · exact hno l hl
      · have c3 := Int32.not_le.mp c2
        refine ih c z h2 f2 hcr q1 q2 hF2 ⟨_, hpm, hz⟩ (fun q y hq hy hno => ?_)
        by_cases r : ∀ i, i < n → fnL c i = q i
        · have : y = z := hy.uniq (hz.cong (fun h0 => (r 0 h0).symm) (fun i hi _ => (r i hi).symm))
          rw [this]; exact Int32.le_refl z
        · refine Int32.le_trans (Int32.le_of_lt c3) (hall q y hq hy (fun l hl => ?_))
          rcases List.mem_cons.mp hl with rfl | hl
          · exact r
          · exact hno l hl
  refine e_X5_nameOf (mo_ok hm) (s_begin hn hm hf (fun h1 f1 q1 q2 q3 => ?_))
  have hidL : ∀ i, i < n → fnL (List.range n) i = i := fun i hi => by unfold fnL; simp [hi]
  have hpid : Pm n (fnL (List.range n)) := ⟨fun i hi => by rw [hidL i hi]; exact hi, fun i j hi hj e => by rw [hidL i hi, hidL j hj] at e; exact e⟩
  refine s_codeOf hn (by rw [q3 32 (by decide)]; exact hm) q1 (by rw [q3 33 (by decide)]; exact ht) hT q2 hpid (fun z hz => ?_)
  refine loop _ _ z h1 f1 hchk q1 q2 q3 ⟨_, hpid, hz⟩ (fun q y hq hy hno => ?_)
  obtain ⟨p1, p2⟩ := pm_list hq
  rw [hpg] at p1
  rcases List.mem_cons.mp p1 with p1 | p1
  · rw [p1] at p2
    have : y = z := hy.uniq (hz.cong (fun h0 => (p2 0 h0).symm) (fun i hi _ => (p2 i hi).symm))
    rw [this]; exact Int32.le_refl z
  · exact absurd p2 (hno _ p1)
