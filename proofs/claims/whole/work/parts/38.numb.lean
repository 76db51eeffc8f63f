/-! ===== the class's numberings: its object at 20, line at 21, wanted at 22 ===== -/
def no (L K : Int32) : Cl := ob 0 [.ref 21, .ref 22, .int L, .int K]
theorem no_ok {h : Hp} {L K : Int32} (e : h 20 = no L K) : (20 : Nat) < 47 ∧ ∃ fs, h 20 = .inr (0, fs) := ⟨by decide, _, e⟩
theorem ushr_bit {x : Int32} {i : Nat} (hi : i < 32) : (iushr x (nI i)) &&& (1 : Int32) = b2i (bt x i) := by
  apply b_ext
  intro k hk
  rw [b_and, bt_ushr hi, bt_1']
  unfold b2i
  by_cases q : k = 0
  · subst q; cases hb : bt x i <;> simp [bt_1', b_0, hb]
  · cases bt x i <;> simp [bt_1', b_0, q]
theorem shl_b2i {b : Bool} {s k : Nat} (hs : s < 32) (hk : k < 32) : bt (ishl (b2i b) (nI s)) k = (b && decide (k = s)) := by
  cases b
  · have : ishl (b2i false) (nI s) = 0 := by
      apply b_ext; intro j hj; rw [bt_shl hs hj]; show (decide (s ≤ j) && bt 0 (j - s)) = bt 0 j; rw [b_0, b_0]; simp
    rw [this, b_0]; rfl
  · rw [show b2i true = (1 : Int32) from rfl, bt_one hs hk]; simp
/-- the bits of one place with those above it -/
def Pb (n : Nat) (g : Nat → Nat → Bool) (q : Nat → Nat) (pl : Nat) (z : Int32) : Prop := ∀ k, k < 32 → (bt z k = true ↔ ∃ j, pl < j ∧ j < n ∧ bop pl j = k ∧ cc g q pl j = true)
theorem Pb.step {n pl : Nat} {g : Nat → Nat → Bool} {q : Nat → Nat} {y z : Int32} (h1 : Pc n g q (pl + 1) y) (h2 : Pb n g q (pl + 1) z) : Pc n g q pl (y ||| z) := fun k hk => by
  rw [b_or, Bool.or_eq_true, h1 k hk, h2 k hk]
  constructor
  · rintro (⟨i, j, a1, a2⟩ | ⟨j, a1, a2, a3, a4⟩)
    · exact ⟨i, j, by omega, a2⟩
    · exact ⟨pl + 1, j, by omega, a1, a2, a3, a4⟩
  · rintro ⟨i, j, a1, a2, a3, a4, a5⟩
    by_cases r : i = pl + 1
    · subst r; exact Or.inr ⟨j, a2, a3, a4, a5⟩
    · exact Or.inl ⟨i, j, by omega, a2, a3, a4, a5⟩
theorem Pb.cong {n pl : Nat} {g : Nat → Nat → Bool} {q q' : Nat → Nat} {z : Int32} (h : Pb n g q pl z) (h0 : q' 0 = q 0) (e : ∀ i, i < n → pl ≤ i → q' i = q i) (hpl : pl < n) : Pb n g q' pl z := fun k hk => (h k hk).trans (by
  constructor
  · rintro ⟨j, h1, h2, h3, h4⟩
    refine ⟨j, h1, h2, h3, ?_⟩
    unfold cc at h4 ⊢
    rw [h0, e pl hpl (by omega), e j h2 (by omega)]; exact h4
  · rintro ⟨j, h1, h2, h3, h4⟩
    refine ⟨j, h1, h2, h3, ?_⟩
    unfold cc at h4 ⊢
    rw [← h0, ← e pl hpl (by omega), ← e j h2 (by omega)]; exact h4)
theorem Pb.uniq {n pl : Nat} {g : Nat → Nat → Bool} {q : Nat → Nat} {y z : Int32} (h1 : Pb n g q pl y) (h2 : Pb n g q pl z) : y = z := by
  refine b_ext (fun k hk => ?_)
  have := (h1 k hk).trans (h2 k hk).symm
  cases hy : bt y k <;> cases hz : bt z k <;> simp [hy, hz] at this ⊢
theorem s_bitsOf {d : Nat} {P : Int32 → Hp → Prop} {h : Hp} {t a n pl : Nat} {g : Nat → Nat → Bool} {f : Nat → Int32} {p : Nat → Nat} {L K : Int32} (hn : n ≤ 7) (hT : TB h t a n g) (hN : h 20 = no L K) (hf : h 21 = iA 7 f) (hp1 : 1 ≤ pl) (hpl : pl < n) (hfp : ∀ i, i < n → (i = 0 ∨ pl ≤ i) → f i = nI (p i) ∧ p i < n)
    (hP : ∀ z, Pb n g p pl z → P z h) : CI M_X0_bitsOf (d + 2) [.ref 20, .ref t, .int (nI pl)] h P := by
  have hT0 := hT
  obtain ⟨ht, ha, e1, m, e2, e3⟩ := hT
  obtain ⟨f0, p0⟩ := hfp 0 (by omega) (Or.inl rfl)
  obtain ⟨fl, ppl⟩ := hfp pl hpl (Or.inr (Nat.le_refl _))
  have loop : ∀ (o : Int32), (∀ k, k < n → bt o k = ((g (p pl) k ^^ g (p 0) k) ^^ g (p 0) (p pl))) → ∀ (e ab : Nat) (z : Int32), ab + e = n → pl < ab → (∀ k, k < 32 → (bt z k = true ↔ ∃ j, pl < j ∧ j < ab ∧ bop pl j = k ∧ cc g p pl j = true)) → L_X0_bitsOf_59 (d + 1) P h 20 t (nI pl) o z (nI ab) := by
    intro o ho e
    induction e with
    | zero =>
      intro ab z hab hpa hz
      refine r_X0_bitsOf_59 ⟨nI n, gI_o ht e1 rfl, pk_le n ab (fun _ => hP z ?_) (fun c => absurd c (by omega))⟩
      rw [show ab = n by omega] at hz; exact hz
    | succ e ih =>
      intro ab z hab hpa hz
      obtain ⟨fa, pa⟩ := hfp ab (by omega) (Or.inr (by omega))
      have hb := bop_lt hp1 hpa (show ab < 7 by omega)
      refine r_X0_bitsOf_59 ⟨nI n, gI_o ht e1 rfl, pk_le n ab (fun c => absurd c (by omega)) (fun _ => ⟨21, gR_o (by decide) hN rfl, f ab, lI_o (by decide) hf (by omega), s_bitOfPair hp1 hpa (by omega) ?_⟩)⟩
      rw [fa, ushr_bit (by omega), nI1]
      refine ih (ab + 1) _ (by omega) (by omega) (fun k hk => ?_)
      rw [b_or, shl_b2i (by omega) hk, ho _ (by omega), Bool.or_eq_true, hz k hk, Bool.and_eq_true]
      have ecc : ((g (p pl) (p ab) ^^ g (p 0) (p ab)) ^^ g (p 0) (p pl)) = cc g p pl ab := by
        unfold cc
        cases g (p pl) (p ab) <;> cases g (p 0) (p ab) <;> cases g (p 0) (p pl) <;> rfl
      rw [ecc]
      constructor
      · rintro (⟨j, a1, a2, a3⟩ | ⟨a1, a2⟩)
        · exact ⟨j, a1, by omega, a3⟩
        · exact ⟨ab, hpa, by omega, (of_decide_eq_true a2).symm, a1⟩
      · rintro ⟨j, a1, a2, a3, a4⟩
        by_cases r : j = ab
        · subst r; exact Or.inr ⟨a4, decide_eq_true a3.symm⟩
        · exact Or.inl ⟨j, a1, by omega, a3, a4⟩
  have start : ∀ k, k < 32 → (bt 0 k = true ↔ ∃ j, pl < j ∧ j < pl + 1 ∧ bop pl j = k ∧ cc g p pl j = true) := fun k _ => by
    rw [b_0]
    exact ⟨fun c => absurd c (by decide), fun ⟨j, a1, a2, _⟩ => absurd a1 (by omega)⟩
  refine e_X0_bitsOf (no_ok hN) ⟨a, gR_o ht e1 rfl, 21, gR_o (by decide) hN rfl, f 0, lI_o (i := 0) (by decide) hf (by decide), ?_⟩
  rw [f0]
  refine ⟨m (p 0), lI_o ha e2 (by omega), a, gR_o ht e1 rfl, 21, gR_o (by decide) hN rfl, f pl, lI_o (by decide) hf (by omega), ?_⟩
  rw [fl]
  refine ⟨m (p pl), lI_o ha e2 (by omega), 21, gR_o (by decide) hN rfl, f pl, lI_o (by decide) hf (by omega), ?_⟩
  rw [fl, bt_bit (by omega), e3 (p 0) (by omega) (p pl) (by omega), nI1]
  refine ⟨fun q => loop _ (fun k hk => ?_) (n - (pl + 1)) (pl + 1) 0 (by omega) (by omega) start, fun q => loop _ (fun k hk => ?_) (n - (pl + 1)) (pl + 1) 0 (by omega) (by omega) start⟩
  · rw [b_xor, e3 _ (by omega) k (by omega), e3 _ (by omega) k (by omega), q]; simp
  · have q' : g (p 0) (p pl) = true := by cases hb : g (p 0) (p pl) <;> simp [hb] at q ⊢
    rw [b_xor, b_xor, e3 _ (by omega) k (by omega), e3 _ (by omega) k (by omega), b_m1 k (by omega), q']
abbrev N2 : Nat → Prop := fun k => k = 21 ∨ k = 22
theorem s_number {d : Nat} {P : Int32 → Hp → Prop} {h : Hp} {t a n : Nat} {g : Nat → Nat → Bool} {f w : Nat → Int32} {L K : Int32} (hn : n ≤ 7) (ht20 : t < 20) (ha20 : a < 20) (hT : TB h t a n g) (hN : h 20 = no L K) (hf : h 21 = iA 7 f) (hw : h 22 = iA 7 w)
    (hP : ∀ z h' f' w', Pc n g (fun i => i) 0 z → h' 21 = iA 7 f' → h' 22 = iA 7 w' → (∀ i, i < n → f' i = nI i) → (∀ pl, 1 ≤ pl → pl < n → Pb n g (fun i => i) pl (w' pl)) → Fr N2 h h' → P z h') : CI M_X0_numberAsItIs (d + 3) [.ref 20, .ref t] h P := by
  have loop2 : ∀ (h1 : Hp) (f1 : Nat → Int32), h1 20 = no L K → h1 21 = iA 7 f1 → (∀ i, i < n → f1 i = nI i) → Fr N2 h h1 → ∀ (e pl : Nat) (h2 : Hp) (w2 : Nat → Int32) (z : Int32), (pl + e = n ∨ (n = 0 ∧ pl = 1)) → 1 ≤ pl → h2 22 = iA 7 w2 → Fr (fun k => k = 22) h1 h2 → (∀ p, 1 ≤ p → p < pl → Pb n g (fun i => i) p (w2 p)) → (∀ k, k < 32 → (bt z k = true ↔ ∃ i j, 0 < i ∧ i < pl ∧ i < j ∧ j < n ∧ bop i j = k ∧ cc g (fun i => i) i j = true)) → L_X0_numberAsItIs_27 (d + 2) P h2 20 t z (nI pl) := by
    intro h1 f1 hN1 hf1 hid hF1 e
    induction e with
    | zero =>
      intro pl h2 w2 z hpl h1p hw2 hF2 hPb hz
      have hT2 : TB h2 t a n g := (hT.fr hF1 (by rintro (r | r) <;> omega) (by rintro (r | r) <;> omega)).fr hF2 (by omega) (by omega)
      refine r_X0_numberAsItIs_27 ⟨nI n, gI_o hT2.1 hT2.2.2.1 rfl, pk_le n pl (fun _ => ?_) (fun c => absurd c (by omega))⟩
      refine hP z h2 f1 w2 (fun k hk => (hz k hk).trans ⟨?_, ?_⟩) (by rw [hF2 21 (by decide)]; exact hf1) hw2 hid (fun p a1 a2 => hPb p a1 (by omega)) (hF1.tr (hF2.mono (fun k r => Or.inr r)))
      · rintro ⟨i, j, a1, a2, a3⟩; exact ⟨i, j, a1, a3⟩
      · rintro ⟨i, j, a1, a3, a4, a5⟩; exact ⟨i, j, a1, by omega, a3, a4, a5⟩
    | succ e ih =>
      intro pl h2 w2 z hpl h1p hw2 hF2 hPb hz
      have hT2 : TB h2 t a n g := (hT.fr hF1 (by rintro (r | r) <;> omega) (by rintro (r | r) <;> omega)).fr hF2 (by omega) (by omega)
      have hN2 : h2 20 = no L K := by rw [hF2 20 (by decide)]; exact hN1
      have hf2 : h2 21 = iA 7 f1 := by rw [hF2 21 (by decide)]; exact hf1
      by_cases hlt : n ≤ pl
      · refine r_X0_numberAsItIs_27 ⟨nI n, gI_o hT2.1 hT2.2.2.1 rfl, pk_le n pl (fun _ => ?_) (fun c => absurd c (by omega))⟩
        refine hP z h2 f1 w2 (fun k hk => (hz k hk).trans ⟨?_, ?_⟩) hf2 hw2 hid (fun p a1 a2 => hPb p a1 (by omega)) (hF1.tr (hF2.mono (fun k r => Or.inr r)))
        · rintro ⟨i, j, a1, a2, a3⟩; exact ⟨i, j, a1, a3⟩
        · rintro ⟨i, j, a1, a3, a4, a5⟩; exact ⟨i, j, a1, by omega, a3, a4, a5⟩
      · refine r_X0_numberAsItIs_27 ⟨nI n, gI_o hT2.1 hT2.2.2.1 rfl, pk_le n pl (fun c => absurd c hlt) (fun _ => ⟨22, gR_o (by decide) hN2 rfl, ?_⟩)⟩
        refine s_bitsOf (p := fun i => i) hn hT2 hN2 hf2 h1p (by omega) (fun i hi _ => ⟨hid i hi, hi⟩) (fun y hy => ?_)
        refine ⟨_, sI_o (by decide) hw2 (by omega), 22, gR_o (by decide) (by rw [hu_n (by decide)]; exact hN2) rfl, y, ?_, ?_⟩
        · have := lI_o (i := pl) (h := hu h2 22 (iA 7 (upd w2 pl y))) (by decide) hu_s (show pl < 7 by omega)
          rw [this, pk_us]
        · rw [nI1]
          refine ih (pl + 1) _ (upd w2 pl y) _ (by omega) (by omega) hu_s (hF2.tr (Fr.hu (S := fun k => k = 22) rfl)) (fun p a1 a2 => ?_) (fun k hk => ?_)
          · by_cases r : p = pl
            · subst r; rw [pk_us]; exact hy
            · rw [pk_un r]; exact hPb p a1 (by omega)
          · rw [b_or, Bool.or_eq_true, hz k hk, hy k hk]
            constructor
            · rintro (⟨i, j, a1, a2, a3⟩ | ⟨j, a1, a2, a3, a4⟩)
              · exact ⟨i, j, a1, by omega, a3⟩
              · exact ⟨pl, j, by omega, by omega, a1, a2, a3, a4⟩
            · rintro ⟨i, j, a1, a2, a3, a4, a5, a6⟩
              by_cases r : i = pl
              · subst r; exact Or.inr ⟨j, a3, a4, a5, a6⟩
              · exact Or.inl ⟨i, j, a1, by omega, a3, a4, a5, a6⟩
  have loop1 : ∀ (e k : Nat) (h1 : Hp) (f1 : Nat → Int32), k + e = n → h1 20 = no L K → h1 21 = iA 7 f1 → h1 22 = iA 7 w → (∀ i, i < k → f1 i = nI i) → Fr N2 h h1 → L_X0_numberAsItIs_4 (d + 2) P h1 20 t 0 (nI k) := by
    intro e
    induction e with
    | zero =>
      intro k h1 f1 hk hN1 hf1 hw1 hid hF
      have hT1 : TB h1 t a n g := hT.fr hF (by rintro (r | r) <;> omega) (by rintro (r | r) <;> omega)
      refine r_X0_numberAsItIs_4 ⟨nI n, gI_o hT1.1 hT1.2.2.1 rfl, pk_le n k (fun _ => ?_) (fun c => absurd c (by omega))⟩
      refine loop2 h1 f1 hN1 hf1 (fun i hi => hid i (by omega)) hF (n - 1) 1 h1 w 0 (by omega) (by omega) hw1 Fr.rf (fun p a1 a2 => absurd a1 (by omega)) (fun j _ => ?_)
      rw [b_0]
      exact ⟨fun c => absurd c (by decide), fun ⟨i, _, a1, a2, _⟩ => absurd a1 (by omega)⟩
    | succ e ih =>
      intro k h1 f1 hk hN1 hf1 hw1 hid hF
      have hT1 : TB h1 t a n g := hT.fr hF (by rintro (r | r) <;> omega) (by rintro (r | r) <;> omega)
      refine r_X0_numberAsItIs_4 ⟨nI n, gI_o hT1.1 hT1.2.2.1 rfl, pk_le n k (fun c => absurd c (by omega)) (fun _ => ⟨21, gR_o (by decide) hN1 rfl, _, sI_o (by decide) hf1 (by omega), ?_⟩)⟩
      rw [nI1]
      refine ih (k + 1) _ (upd f1 k (nI k)) (by omega) (by rw [hu_n (by decide)]; exact hN1) hu_s (by rw [hu_n (by decide)]; exact hw1) (fun i hi => ?_) (hF.tr (Fr.hu (S := N2) (Or.inl rfl)))
      by_cases r : i = k
      · subst r; rw [pk_us]
      · rw [pk_un r]; exact hid i (by omega)
  exact e_X0_numberAsItIs (no_ok hN) (loop1 n 0 h f (by omega) hN hf hw (fun i hi => absurd hi (by omega)) Fr.rf)
/-! ===== the search for the least ===== -/
/-- the places that are filled: 0 and those above pl -/
abbrev fil (n pl i : Nat) : Prop := i < n ∧ (i = 0 ∨ pl < i)
def LowP (n : Nat) (g : Nat → Nat → Bool) (p : Nat → Nat) (pl : Nat) (L L' : Int32) : Prop := (L' = L ∨ ∃ q, Pm n q ∧ Pc n g q 0 L') ∧ L' ≤ L ∧ ∀ q z, Pm n q → (∀ i, fil n pl i → q i = p i) → Pc n g q 0 z → L' ≤ z
abbrev N1 : Nat → Prop := fun k => k = 20 ∨ k = 21
theorem s_lower {t a n : Nat} {g : Nat → Nat → Bool} (hn : n ≤ 7) (ht20 : t < 20) (ha20 : a < 20) : ∀ (pl d : Nat) (P : Hp → Prop) (h : Hp) (f : Nat → Int32) (p : Nat → Nat) (L K z used : Int32), pl < n → TB h t a n g → h 20 = no L K → h 21 = iA 7 f → (∀ i, fil n pl i → f i = nI (p i) ∧ p i < n) → (∀ i j, fil n pl i → fil n pl j → p i = p j → i = j) → (∀ x, x < n → (bt used x = true ↔ ∃ i, fil n pl i ∧ p i = x)) → Pc n g p pl z →
    (∀ h' f' L', h' 20 = no L' K → h' 21 = iA 7 f' → (∀ i, fil n pl i → f' i = f i) → Fr N1 h h' → LowP n g p pl L L' → P h') → CV M_X0_lower (d + pl + 3) [.ref 20, .ref t, .int (nI pl), .int used, .int z] h P := by
  intro pl
  induction pl with
  | zero =>
    intro d P h f p L K z used hpl hT hN hf hfp hinj hused hz hP
    refine e_X0_lower (no_ok hN) (pk_le 1 0 (fun c => absurd c (by omega)) (fun _ => ⟨L, gI_o (by decide) hN rfl, _, sF_o (by decide) hN (by simp), ?_⟩))
    have hpm : Pm n p := by
      refine ⟨fun i hi => (hfp i ⟨hi, by omega⟩).2, fun i j hi hj e => hinj i j ⟨hi, by omega⟩ ⟨hj, by omega⟩ e⟩
    refine hP _ f (if z < L then z else L) hu_s (by rw [hu_n (by decide)]; exact hf) (fun _ _ => rfl) (Fr.hu (S := N1) (Or.inl rfl)) ⟨?_, ?_, fun q y hq hqp hy => ?_⟩
    · by_cases r : z < L
      · rw [if_pos r]; exact Or.inr ⟨p, hpm, hz⟩
      · rw [if_neg r]; exact Or.inl rfl
    · by_cases r : z < L
      · rw [if_pos r]; exact Int32.le_of_lt r
      · rw [if_neg r]; exact Int32.le_refl L
    · have : y = z := hy.uniq (hz.cong (fun h0 => hqp 0 ⟨h0, Or.inl rfl⟩) (fun i hi hi0 => hqp i ⟨hi, Or.inr hi0⟩))
      rw [this]
      by_cases r : z < L
      · rw [if_pos r]; exact Int32.le_refl z
      · rw [if_neg r]; exact Int32.not_lt.mp r
  | succ pl ih =>
    intro d P h f p L K z used hpl hT hN hf hfp hinj hused hz hP
    have loop : ∀ (e x : Nat) (h1 : Hp) (f1 : Nat → Int32) (L1 : Int32), x + e = n → h1 20 = no L1 K → h1 21 = iA 7 f1 → (∀ i, fil n (pl + 1) i → f1 i = f i) → Fr N1 h h1 → (L1 = L ∨ ∃ q, Pm n q ∧ Pc n g q 0 L1) → L1 ≤ L → (∀ q y, Pm n q → (∀ i, fil n (pl + 1) i → q i = p i) → q (pl + 1) < x → Pc n g q 0 y → L1 ≤ y) → L_X0_lower_22 (d + pl + 3) P h1 20 t (nI (pl + 1)) used z (nI x) := by
      intro e
      induction e with
      | zero =>
        intro x h1 f1 L1 hx hN1 hf1 hff hF hL hLe hall
        have hT1 : TB h1 t a n g := hT.fr hF (by rintro (r | r) <;> omega) (by rintro (r | r) <;> omega)
        refine r_X0_lower_22 ⟨nI n, gI_o hT1.1 hT1.2.2.1 rfl, pk_le n x (fun _ => ?_) (fun c => absurd c (by omega))⟩
        exact hP h1 f1 L1 hN1 hf1 hff hF ⟨hL, hLe, fun q y hq hqp hy => hall q y hq hqp (by have := hq.1 (pl + 1) hpl; omega) hy⟩
      | succ e ihe =>
        intro x h1 f1 L1 hx hN1 hf1 hff hF hL hLe hall
        have hT1 : TB h1 t a n g := hT.fr hF (by rintro (r | r) <;> omega) (by rintro (r | r) <;> omega)
        refine r_X0_lower_22 ⟨nI n, gI_o hT1.1 hT1.2.2.1 rfl, pk_le n x (fun c => absurd c (by omega)) (fun _ => ?_)⟩
        rw [bt_bit (by omega), nI1]
        refine ⟨fun c => ?_, fun c => ?_⟩
        · have cu : bt used x = true := by cases hb : bt used x <;> simp [hb] at c ⊢
          obtain ⟨i, hi, hpi⟩ := (hused x (by omega)).mp cu
          refine ihe (x + 1) h1 f1 L1 (by omega) hN1 hf1 hff hF hL hLe (fun q y hq hqp hqx hy => ?_)
          by_cases r : q (pl + 1) = x
          · exfalso
            have h5 := hqp i hi
            have h6 := hq.2 (pl + 1) i hpl hi.1 (by rw [r, h5, hpi])
            rcases hi.2 with h7 | h7 <;> omega
          · exact hall q y hq hqp (by omega) hy
        · -- the line x is free: it is tried at place pl + 1
          have notused : ∀ i, fil n (pl + 1) i → p i ≠ x := fun i hi hpi => by
            have := (hused x (by omega)).mpr ⟨i, hi, hpi⟩
            rw [c] at this; cases this
          refine ⟨21, gR_o (by decide) hN1 rfl, _, sI_o (by decide) hf1 (by omega), ?_⟩
          have hN2 : hu h1 21 (iA 7 (upd f1 (pl + 1) (nI x))) 20 = no L1 K := by rw [hu_n (by decide)]; exact hN1
          have hT2 : TB (hu h1 21 (iA 7 (upd f1 (pl + 1) (nI x)))) t a n g := hT1.same (hu_n (by omega)) (hu_n (by omega))
          have hF2 : Fr N1 h (hu h1 21 (iA 7 (upd f1 (pl + 1) (nI x)))) := hF.tr (Fr.hu (S := N1) (Or.inr rfl))
          have hfp2 : ∀ i, fil n pl i → upd f1 (pl + 1) (nI x) i = nI (if i = pl + 1 then x else p i) ∧ (if i = pl + 1 then x else p i) < n := fun i hi => by
            by_cases r : i = pl + 1
            · subst r; rw [pk_us, if_pos rfl]; exact ⟨rfl, by omega⟩
            · rw [pk_un r, if_neg r]
              have hi2 : fil n (pl + 1) i := ⟨hi.1, by rcases hi.2 with h7 | h7 <;> omega⟩
              rw [hff i hi2]; exact hfp i hi2
          have hp' : ∀ i, fil n (pl + 1) i → (if i = pl + 1 then x else p i) = p i := fun i hi => if_neg (by rcases hi.2 with h7 | h7 <;> omega)
          have keep : ∀ i, fil n (pl + 1) i → upd f1 (pl + 1) (nI x) i = f i := fun i hi => by
            rw [pk_un (by rcases hi.2 with h7 | h7 <;> omega)]; exact hff i hi
          refine s_bitsOf (p := fun i => if i = pl + 1 then x else p i) hn hT2 hN2 hu_s (by omega) hpl (fun i hi hor => hfp2 i ⟨hi, by omega⟩) (fun y hy => ⟨L1, gI_o (by decide) hN2 rfl, ?_⟩)
          have hz2 : Pc n g (fun i => if i = pl + 1 then x else p i) (pl + 1) z := hz.cong (fun h0 => hp' 0 ⟨h0, Or.inl rfl⟩) (fun i hi hi2 => hp' i ⟨hi, Or.inr hi2⟩)
          have hzy : Pc n g (fun i => if i = pl + 1 then x else p i) pl (z ||| y) := Pb.step hz2 hy
          -- what is known of numberings with x at this place
          have ext : ∀ q : Nat → Nat, (∀ i, fil n (pl + 1) i → q i = p i) → q (pl + 1) = x → ∀ i, fil n pl i → q i = (if i = pl + 1 then x else p i) := fun q hqp hqx i hi => by
            by_cases r : i = pl + 1
            · rw [if_pos r, r]; exact hqx
            · rw [if_neg r]; exact hqp i ⟨hi.1, by rcases hi.2 with h7 | h7 <;> omega⟩
          refine ⟨fun c2 => ?_, fun c2 => ?_⟩
          · refine ihe (x + 1) _ _ L1 (by omega) hN2 hu_s keep hF2 hL hLe (fun q w hq hqp hqx hw => ?_)
            by_cases r : q (pl + 1) = x
            · have h8 := ext q hqp r
              have h9 : Pc n g q pl (z ||| y) := hzy.cong (fun h0 => h8 0 ⟨h0, Or.inl rfl⟩) (fun i hi hi2 => h8 i ⟨hi, Or.inr hi2⟩)
              exact Int32.le_trans c2 (h9.le hn hw)
            · exact hall q w hq hqp (by omega) hw
          · have epl : nI (pl + 1) - (1 : Int32) = nI pl := nI_pred pl
            rw [epl]
            refine ih d _ _ _ (fun i => if i = pl + 1 then x else p i) L1 K (z ||| y) _ (by omega) hT2 hN2 hu_s hfp2 (fun i j hi hj eij => ?_) (fun u hu => ?_) hzy (fun h3 f3 L3 q1 q2 q3 q4 q5 => ?_)
            · by_cases ri : i = pl + 1
              · by_cases rj : j = pl + 1
                · omega
                · rw [if_pos ri, if_neg rj] at eij
                  exact absurd eij.symm (notused j ⟨hj.1, by rcases hj.2 with h7 | h7 <;> omega⟩)
              · by_cases rj : j = pl + 1
                · rw [if_neg ri, if_pos rj] at eij
                  exact absurd eij (notused i ⟨hi.1, by rcases hi.2 with h7 | h7 <;> omega⟩)
                · rw [if_neg ri, if_neg rj] at eij
                  exact hinj i j ⟨hi.1, by rcases hi.2 with h7 | h7 <;> omega⟩ ⟨hj.1, by rcases hj.2 with h7 | h7 <;> omega⟩ eij
            · rw [b_or, bt_one (by omega) (by omega), Bool.or_eq_true, hused u hu]
              constructor
              · rintro (⟨i, hi, e2⟩ | r)
                · exact ⟨i, ⟨hi.1, by rcases hi.2 with h7 | h7 <;> omega⟩, by rw [hp' i hi]; exact e2⟩
                · exact ⟨pl + 1, ⟨hpl, Or.inr (by omega)⟩, by rw [if_pos rfl]; exact (of_decide_eq_true r).symm⟩
              · rintro ⟨i, hi, e2⟩
                by_cases ri : i = pl + 1
                · rw [if_pos ri] at e2; exact Or.inr (decide_eq_true e2.symm)
                · rw [if_neg ri] at e2; exact Or.inl ⟨i, ⟨hi.1, by rcases hi.2 with h7 | h7 <;> omega⟩, e2⟩
            · obtain ⟨r1, r2, r3⟩ := q5
              refine ihe (x + 1) h3 f3 L3 (by omega) q1 q2 (fun i hi => ?_) (hF2.tr q4) ?_ (Int32.le_trans r2 hLe) (fun q w hq hqp hqx hw => ?_)
              · rw [q3 i ⟨hi.1, by rcases hi.2 with h7 | h7 <;> omega⟩]; exact keep i hi
              · rcases r1 with r1 | r1
                · rw [r1]; exact hL
                · exact Or.inr r1
              · by_cases r : q (pl + 1) = x
                · exact r3 q w hq (ext q hqp r) hw
                · exact Int32.le_trans r2 (hall q w hq hqp (by omega) hw)
    refine e_X0_lower (no_ok hN) (pk_le 1 (pl + 1) (fun _ => ?_) (fun c => absurd c (by omega)))
    exact loop n 0 h f L (by omega) hN hf (fun _ _ => rfl) Fr.rf (Or.inl rfl) (Int32.le_refl L) (fun q y _ _ hlt => absurd hlt (by omega))
abbrev N3 : Nat → Prop := fun k => k = 20 ∨ k = 21 ∨ k = 22
theorem s_least {d : Nat} {P : Int32 → Hp → Prop} {h : Hp} {t a n : Nat} {g : Nat → Nat → Bool} (hn : n ≤ 7) (ht20 : t < 20) (ha20 : a < 20) (hT : TB h t a n g) (hN : NB0 h) (hP : ∀ r h', isMin n g r → NB0 h' → Fr N3 h h' → P r h') : CI M_X0_least (d + 12) [.ref 20, .ref t] h P := by
  obtain ⟨⟨L0, K0, e20⟩, ⟨f, e21⟩, w, e22⟩ := hN
  refine e_X0_least ⟨by decide, _, e20⟩ (s_number hn ht20 ha20 hT e20 e21 e22 (fun z h1 f1 w1 hz hf1 hw1 hid hPb hF1 => ?_))
  have e20' : h1 20 = no L0 K0 := by rw [hF1 20 (by decide)]; exact e20
  refine ⟨_, sF_o (by decide) e20' (by simp), ?_⟩
  have loop : ∀ (e x : Nat) (h2 : Hp) (f2 : Nat → Int32) (L : Int32), x + e = n → h2 20 = no L K0 → h2 21 = iA 7 f2 → h2 22 = iA 7 w1 → Fr N3 h h2 → (∃ q, Pm n q ∧ Pc n g q 0 L) → (∀ q y, Pm n q → q 0 < x → Pc n g q 0 y → L ≤ y) → L_X0_least_11 (d + 11) P h2 20 t (nI x) := by
    intro e
    induction e with
    | zero =>
      intro x h2 f2 L hx q20 q21 q22 hF hL hall
      have hT2 : TB h2 t a n g := hT.fr hF (by rintro (r | r | r) <;> omega) (by rintro (r | r | r) <;> omega)
      refine r_X0_least_11 ⟨nI n, gI_o hT2.1 hT2.2.2.1 rfl, pk_le n x (fun _ => ⟨L, gI_o (by decide) q20 rfl, ?_⟩) (fun c => absurd c (by omega))⟩
      refine hP L h2 ⟨hL, fun q y hq hy => ?_⟩ ⟨⟨L, K0, q20⟩, ⟨f2, q21⟩, w1, q22⟩ hF
      by_cases h0 : n = 0
      · subst h0
        obtain ⟨q', hq', hL'⟩ := hL
        have : Pc 0 g q 0 L := hL'.cong (fun h => absurd h (by omega)) (fun i hi => absurd hi (by omega))
        rw [this.uniq hy]; exact Int32.le_refl y
      · exact hall q y hq (by have := hq.1 0 (by omega); omega) hy
    | succ e ih =>
      intro x h2 f2 L hx q20 q21 q22 hF hL hall
      have hT2 : TB h2 t a n g := hT.fr hF (by rintro (r | r | r) <;> omega) (by rintro (r | r | r) <;> omega)
      refine r_X0_least_11 ⟨nI n, gI_o hT2.1 hT2.2.2.1 rfl, pk_le n x (fun c => absurd c (by omega)) (fun _ => ⟨21, gR_o (by decide) q20 rfl, _, sI_o (i := 0) (by decide) q21 (by decide), nI n, gI_o hT2.1 (by rw [hu_n (by omega)]; exact hT2.2.2.1) rfl, ?_⟩)⟩
      have hT3 : TB (hu h2 21 (iA 7 (upd f2 0 (nI x)))) t a n g := hT2.same (hu_n (by omega)) (hu_n (by omega))
      have epl : nI n - (1 : Int32) = nI (n - 1) := pk_sub (a := n) (b := 1) (by omega)
      rw [epl]
      have zero : Pc n g (fun _ => x) (n - 1) 0 := fun k _ => by
        rw [b_0]
        exact ⟨fun c => absurd c (by decide), fun ⟨i, j, a1, a2, a3, _⟩ => absurd a1 (by omega)⟩
      have fil0 : ∀ i, fil n (n - 1) i → i = 0 := fun i hi => by rcases hi.2 with r | r <;> omega
      have key := s_lower (g := g) hn ht20 ha20 (n - 1) (d + 9 - n) (fun h6 => L_X0_least_11 (d + 11) P h6 20 t (nI x + (1 : Int32))) (hu h2 21 (iA 7 (upd f2 0 (nI x)))) (upd f2 0 (nI x)) (fun _ => x) L K0 0 (ishl 1 (nI x)) (by omega) hT3 (by rw [hu_n (by decide)]; exact q20) hu_s (fun i hi => by rw [fil0 i hi, pk_us]; exact ⟨rfl, by omega⟩) (fun i j hi hj _ => by rw [fil0 i hi, fil0 j hj]) (fun u hu => by
        rw [bt_one (by omega) (by omega), decide_eq_true_iff]
        exact ⟨fun r => ⟨0, ⟨by omega, Or.inl rfl⟩, r.symm⟩, fun ⟨i, _, r⟩ => r.symm⟩) zero (fun h3 f3 L3 p1 p2 p3 p4 p5 => by
        obtain ⟨r1, r2, r3⟩ := p5
        rw [nI1]
        refine ih (x + 1) h3 f3 L3 (by omega) p1 p2 (by rw [p4 22 (by decide), hu_n (by decide)]; exact q22) (hF.tr ((Fr.hu (S := N3) (Or.inr (Or.inl rfl))).tr (p4.mono (fun k r => by rcases r with r | r; exact Or.inl r; exact Or.inr (Or.inl r))))) ?_ (fun q y hq hqx hy => ?_)
        · rcases r1 with r1 | r1
          · rw [r1]; exact hL
          · exact r1
        · by_cases r : q 0 = x
          · exact r3 q y hq (fun i hi => by rw [fil0 i hi]; exact r) hy
          · exact Int32.le_trans r2 (hall q y hq (by omega) hy))
      rw [show d + 9 - n + (n - 1) + 3 = d + 11 by omega] at key
      exact key
  refine loop n 0 _ f1 z (by omega) hu_s (by rw [hu_n (by decide)]; exact hf1) (by rw [hu_n (by decide)]; exact hw1) ?_ ⟨_, Pm_id n, hz⟩ (fun q y _ hlt => absurd hlt (by omega))
  exact (hF1.mono (fun k r => Or.inr r)).tr (Fr.hu (S := N3) (Or.inl rfl))
