/-! ===== how many numberings keep the table ===== -/
def dfs (n : Nat) : Nat → Nat → List Nat → List (List Nat)
  | 0, f, s => [f :: s]
  | m + 1, f, s => (List.range n).flatMap (fun x => if x = f ∨ x ∈ s then [] else dfs n m f (x :: s))
theorem dfs_iff (n : Nat) : ∀ (m f : Nat) (s l : List Nat), l ∈ dfs n m f s ↔ ∃ t : List Nat, t.length = m ∧ l = f :: (t ++ s) ∧ t.Nodup ∧ ∀ x ∈ t, x < n ∧ x ≠ f ∧ x ∉ s
  | 0, f, s, l => by
    constructor
    · intro h
      exact ⟨[], rfl, List.mem_singleton.mp h, List.nodup_nil, fun x hx => absurd hx List.not_mem_nil⟩
    · rintro ⟨t, h1, h2, -, -⟩
      have : t = [] := List.length_eq_zero_iff.mp h1
      rw [h2, this]; exact List.mem_singleton.mpr rfl
  | m + 1, f, s, l => by
    unfold dfs
    rw [List.mem_flatMap]
    constructor
    · rintro ⟨x, hx, hl⟩
      by_cases q : x = f ∨ x ∈ s
      · rw [if_pos q] at hl; exact absurd hl List.not_mem_nil
      · rw [if_neg q] at hl
        obtain ⟨t, h1, h2, h3, h4⟩ := (dfs_iff n m f (x :: s) l).mp hl
        refine ⟨t ++ [x], by simp [h1], by rw [h2]; simp, ?_, fun y hy => ?_⟩
        · refine List.nodup_append.mpr ⟨h3, by simp, fun a ha b hb e => ?_⟩
          rw [List.mem_singleton.mp hb] at e
          exact (h4 a ha).2.2 (by rw [e]; exact List.mem_cons_self)
        · rcases List.mem_append.mp hy with hy | hy
          · exact ⟨(h4 y hy).1, (h4 y hy).2.1, fun r => (h4 y hy).2.2 (List.mem_cons_of_mem _ r)⟩
          · rw [List.mem_singleton.mp hy]
            exact ⟨List.mem_range.mp hx, fun r => q (Or.inl r), fun r => q (Or.inr r)⟩
    · rintro ⟨t, h1, h2, h3, h4⟩
      rcases List.eq_nil_or_concat t with rfl | ⟨t', x, rfl⟩
      · simp at h1
      · rw [List.concat_eq_append] at h1 h2 h3 h4
        obtain ⟨a1, -, a3⟩ := List.nodup_append.mp h3
        have hx := h4 x (by simp)
        refine ⟨x, List.mem_range.mpr hx.1, ?_⟩
        rw [if_neg (by rintro (r | r); exact hx.2.1 r; exact hx.2.2 r)]
        refine (dfs_iff n m f (x :: s) l).mpr ⟨t', by simpa using h1, by rw [h2]; simp, a1, fun y hy => ⟨(h4 y (by simp [hy])).1, (h4 y (by simp [hy])).2.1, fun r => ?_⟩⟩
        rcases List.mem_cons.mp r with r | r
        · exact a3 y hy x (by simp) r
        · exact (h4 y (by simp [hy])).2.2 r
theorem dfs_at {n m f k : Nat} {s l : List Nat} (h : l ∈ dfs n m f s) (hk : k < s.length) : fnL l 0 = f ∧ fnL l (m + 1 + k) = s.getD k 0 := by
  obtain ⟨t, h1, rfl, -, -⟩ := (dfs_iff n m f s l).mp h
  refine ⟨rfl, ?_⟩
  unfold fnL
  rw [show m + 1 + k = (m + k) + 1 by omega, List.getD_cons_succ, List.getD_eq_getElem?_getD, List.getElem?_append_right (by omega), h1, show m + k - m = k by omega, ← List.getD_eq_getElem?_getD]
theorem dfs_nodup (n : Nat) : ∀ (m f : Nat) (s : List Nat), (dfs n m f s).Nodup
  | 0, f, s => List.nodup_cons.mpr ⟨List.not_mem_nil, List.nodup_nil⟩
  | m + 1, f, s => by
    refine List.pairwise_flatMap.mpr ⟨fun x _ => ?_, ?_⟩
    · by_cases q : x = f ∨ x ∈ s
      · rw [if_pos q]; exact List.Pairwise.nil
      · rw [if_neg q]; exact dfs_nodup n m f (x :: s)
    · refine List.Pairwise.imp (fun {a b} hab x hx y hy e => ?_) (List.nodup_range (n := n))
      by_cases q : a = f ∨ a ∈ s
      · rw [if_pos q] at hx; exact absurd hx List.not_mem_nil
      · by_cases q2 : b = f ∨ b ∈ s
        · rw [if_pos q2] at hy; exact absurd hy List.not_mem_nil
        · rw [if_neg q] at hx
          rw [if_neg q2] at hy
          have h1 := (dfs_at (k := 0) hx (by simp)).2
          have h2 := (dfs_at (k := 0) hy (by simp)).2
          rw [e, h2] at h1
          exact hab h1.symm
def dfsA (n : Nat) : List (List Nat) := (List.range n).flatMap (fun x => dfs n (n - 1) x [])
theorem dfsA_perm {n : Nat} (hn : 1 ≤ n) : List.Perm (dfsA n) (pg n (List.range n)) := by
  have nd : (dfsA n).Nodup := by
    refine List.pairwise_flatMap.mpr ⟨fun x _ => dfs_nodup n _ x [], List.Pairwise.imp (fun {a b} hab x hx y hy e => ?_) (List.nodup_range (n := n))⟩
    obtain ⟨t, -, rfl, -⟩ := (dfs_iff n _ a [] x).mp hx
    obtain ⟨u, -, rfl, -⟩ := (dfs_iff n _ b [] y).mp hy
    exact hab (List.cons.inj e).1
  refine (List.perm_ext_iff_of_nodup nd (pg_nodup n _ (List.nodup_range (n := n)))).mpr (fun l => ?_)
  constructor
  · intro h
    obtain ⟨x, hx, hl⟩ := List.mem_flatMap.mp h
    obtain ⟨t, h1, rfl, h3, h4⟩ := (dfs_iff n _ x [] l).mp hl
    rw [List.append_nil]
    refine pg_mem n _ _ (by simp [h1]; omega) (List.nodup_cons.mpr ⟨fun r => (h4 x r).2.1 rfl, h3⟩) (fun y hy => ?_)
    rcases List.mem_cons.mp hy with rfl | hy
    · exact hx
    · exact List.mem_range.mpr (h4 y hy).1
  · intro h
    obtain ⟨h1, h2, h3⟩ := pg_ok n _ l (List.nodup_range (n := n)) h
    match l, h1, h2, h3 with
    | [], h1, _, _ => simp at h1; omega
    | x :: t, h1, h2, h3 =>
      have hx := List.nodup_cons.mp h2
      refine List.mem_flatMap.mpr ⟨x, h3 x List.mem_cons_self, (dfs_iff n _ x [] _).mpr ⟨t, by simp at h1; omega, by rw [List.append_nil], hx.2, fun y hy => ⟨List.mem_range.mp (h3 y (List.mem_cons_of_mem _ hy)), fun r => hx.1 (r ▸ hy), List.not_mem_nil⟩⟩⟩
/-- a numbering keeps the table -/
def Kp (n : Nat) (g : Nat → Nat → Bool) (q : Nat → Nat) : Prop := ∀ i j, 0 < i → i < j → j < n → cc g q i j = cc g (fun k => k) i j
noncomputable def KpB (n : Nat) (g : Nat → Nat → Bool) (l : List Nat) : Bool := @decide (Kp n g (fnL l)) (Classical.propDecidable _)
theorem KpB_t {n : Nat} {g : Nat → Nat → Bool} {l : List Nat} (h : Kp n g (fnL l)) : KpB n g l = true := by unfold KpB; exact @decide_eq_true _ (Classical.propDecidable _) h
theorem KpB_f {n : Nat} {g : Nat → Nat → Bool} {l : List Nat} (h : ¬ Kp n g (fnL l)) : KpB n g l = false := by unfold KpB; exact @decide_eq_false _ (Classical.propDecidable _) h
theorem bop_inj0 : (List.range 7).all (fun j => (List.range 7).all (fun j' => (List.range 7).all (fun i => (List.range 7).all (fun i' => !(decide (1 ≤ i ∧ i < j) && decide (1 ≤ i' ∧ i' < j') && decide (bop i j = bop i' j')) || decide (i = i' ∧ j = j'))))) = true := by decide +kernel
theorem bop_inj (j : Nat) (hj : j < 7) (j' : Nat) (hj' : j' < 7) (i : Nat) (hi : i < j) (i' : Nat) (hi' : i' < j') (h1 : 1 ≤ i) (h2 : 1 ≤ i') (e : bop i j = bop i' j') : i = i' ∧ j = j' := by
  have h3 := List.all_eq_true.mp (List.all_eq_true.mp (List.all_eq_true.mp (List.all_eq_true.mp bop_inj0 j (List.mem_range.mpr hj)) j' (List.mem_range.mpr hj')) i (List.mem_range.mpr (by omega))) i' (List.mem_range.mpr (by omega))
  rw [decide_eq_true (⟨h1, hi⟩ : 1 ≤ i ∧ i < j), decide_eq_true (⟨h2, hi'⟩ : 1 ≤ i' ∧ i' < j'), decide_eq_true e] at h3
  exact of_decide_eq_true h3
theorem Pb_eq {n pl : Nat} {g : Nat → Nat → Bool} {p q : Nat → Nat} {y z : Int32} (hn : n ≤ 7) (h1 : 1 ≤ pl) (hy : Pb n g p pl y) (hz : Pb n g q pl z) : y = z ↔ ∀ j, pl < j → j < n → cc g p pl j = cc g q pl j := by
  constructor
  · intro e j hj hjn
    have hb := bop_lt h1 hj (by omega)
    have hy1 := hy (bop pl j) (by omega)
    have hz1 := hz (bop pl j) (by omega)
    rw [e] at hy1
    have one : ∀ r : Nat → Nat, (∃ j', pl < j' ∧ j' < n ∧ bop pl j' = bop pl j ∧ cc g r pl j' = true) ↔ cc g r pl j = true := fun r => by
      constructor
      · rintro ⟨j', a1, a2, a3, a4⟩
        have := (bop_inj j' (by omega) j (by omega) pl a1 pl hj h1 h1 a3).2
        rw [← this]; exact a4
      · intro h; exact ⟨j, hj, hjn, rfl, h⟩
    rw [one] at hy1 hz1
    have := hy1.symm.trans hz1
    cases ha : cc g p pl j <;> cases hb : cc g q pl j <;> simp [ha, hb] at this ⊢
  · intro h
    refine b_ext (fun k hk => ?_)
    have := (hy k hk).trans (Iff.trans (by
      constructor
      · rintro ⟨j, a1, a2, a3, a4⟩; exact ⟨j, a1, a2, a3, by rw [← h j a1 a2]; exact a4⟩
      · rintro ⟨j, a1, a2, a3, a4⟩; exact ⟨j, a1, a2, a3, by rw [h j a1 a2]; exact a4⟩) (hz k hk).symm)
    cases hy1 : bt y k <;> cases hz1 : bt z k <;> simp [hy1, hz1] at this ⊢
theorem s_keep {t a n : Nat} {g : Nat → Nat → Bool} {w : Nat → Int32} (hn : n ≤ 7) (ht20 : t < 20) (ha20 : a < 20) (hw : ∀ pl, 1 ≤ pl → pl < n → Pb n g (fun i => i) pl (w pl)) : ∀ (pl d : Nat) (P : Hp → Prop) (h : Hp) (f : Nat → Int32) (p : Nat → Nat) (s : List Nat) (L used : Int32) (K : Nat), pl < n → TB h t a n g → h 20 = no L (nI K) → h 21 = iA 7 f → h 22 = iA 7 w → (∀ i, fil n pl i → f i = nI (p i) ∧ p i < n) → s.length = n - 1 - pl → (∀ k, k < s.length → s.getD k 0 = p (pl + 1 + k)) → (∀ x, x < n → (bt used x = true ↔ x = p 0 ∨ x ∈ s)) → (∀ i j, pl < i → i < j → j < n → cc g p i j = cc g (fun k => k) i j) →
    (∀ h' f', h' 20 = no L (nI (K + (dfs n pl (p 0) s).countP (KpB n g))) → h' 21 = iA 7 f' → (∀ i, fil n pl i → f' i = f i) → Fr N1 h h' → P h') → CV M_X0_keep (d + pl + 3) [.ref 20, .ref t, .int (nI pl), .int used] h P := by
  intro pl
  induction pl with
  | zero =>
    intro d P h f p s L used K hpl hT hN hf hw2 hfp hsl hs hused hm hP
    refine e_X0_keep (no_ok hN) (pk_le 1 0 (fun c => absurd c (by omega)) (fun _ => ⟨nI K, gI_o (by decide) hN rfl, _, sF_o (by decide) hN (by simp), ?_⟩))
    have hKp : KpB n g (p 0 :: s) = true := by
      refine KpB_t (fun i j h1 h2 h3 => ?_)
      have e : ∀ i, i < n → fnL (p 0 :: s) i = p i := fun i hi => by
        unfold fnL
        cases i with
        | zero => rfl
        | succ i => rw [List.getD_cons_succ, hs i (by omega)]; congr 1; omega
      unfold cc
      rw [e 0 (by omega), e i (by omega), e j h3]
      exact hm i j h1 h2 h3
    refine hP _ f ?_ (by rw [hu_n (by decide)]; exact hf) (fun _ _ => rfl) (Fr.hu (S := N1) (Or.inl rfl))
    have ec : (dfs n 0 (p 0) s).countP (KpB n g) = 1 := by
      show List.countP (KpB n g) [p 0 :: s] = 1
      rw [List.countP_cons, hKp]; rfl
    rw [ec, hu_s]
    show no L (nI K + 1) = _
    rw [nI1]
  | succ pl ih =>
    intro d P h f p s L used K hpl hT hN hf hw2 hfp hsl hs hused hm hP
    have loop : ∀ (e x : Nat) (h1 : Hp) (f1 : Nat → Int32), x + e = n → h1 20 = no L (nI (K + ((List.range x).flatMap (fun x => if x = p 0 ∨ x ∈ s then [] else dfs n pl (p 0) (x :: s))).countP (KpB n g))) → h1 21 = iA 7 f1 → h1 22 = iA 7 w → (∀ i, fil n (pl + 1) i → f1 i = f i) → Fr N1 h h1 → L_X0_keep_19 (d + pl + 3) P h1 20 t (nI (pl + 1)) used (nI x) := by
      intro e
      induction e with
      | zero =>
        intro x h1 f1 hx hN1 hf1 hw1 hff hF
        have hT1 : TB h1 t a n g := hT.fr hF (by rintro (r | r) <;> omega) (by rintro (r | r) <;> omega)
        refine r_X0_keep_19 ⟨nI n, gI_o hT1.1 hT1.2.2.1 rfl, pk_le n x (fun _ => ?_) (fun c => absurd c (by omega))⟩
        have : x = n := by omega
        subst this
        exact hP h1 f1 hN1 hf1 hff hF
      | succ e ihe =>
        intro x h1 f1 hx hN1 hf1 hw1 hff hF
        have hT1 : TB h1 t a n g := hT.fr hF (by rintro (r | r) <;> omega) (by rintro (r | r) <;> omega)
        have nxt : ∀ c, (if x = p 0 ∨ x ∈ s then [] else dfs n pl (p 0) (x :: s)).countP (KpB n g) = c → ((List.range (x + 1)).flatMap (fun x => if x = p 0 ∨ x ∈ s then [] else dfs n pl (p 0) (x :: s))).countP (KpB n g) = ((List.range x).flatMap (fun x => if x = p 0 ∨ x ∈ s then [] else dfs n pl (p 0) (x :: s))).countP (KpB n g) + c := fun c hc => by
          rw [List.range_succ, List.flatMap_append, List.countP_append]
          rw [show List.flatMap (fun x => if x = p 0 ∨ x ∈ s then [] else dfs n pl (p 0) (x :: s)) [x] = (if x = p 0 ∨ x ∈ s then [] else dfs n pl (p 0) (x :: s)) by simp, hc]
        refine r_X0_keep_19 ⟨nI n, gI_o hT1.1 hT1.2.2.1 rfl, pk_le n x (fun c => absurd c (by omega)) (fun _ => ?_)⟩
        rw [bt_bit (by omega), nI1]
        refine ⟨fun c => ?_, fun c => ?_⟩
        · have cu : bt used x = true := by cases hb : bt used x <;> simp [hb] at c ⊢
          have hu := (hused x (by omega)).mp cu
          refine ihe (x + 1) h1 f1 (by omega) ?_ hf1 hw1 hff hF
          rw [nxt 0 (by rw [if_pos hu]; rfl)]; exact hN1
        · have nu : ¬ (x = p 0 ∨ x ∈ s) := fun r => by
            have := (hused x (by omega)).mpr r
            rw [c] at this; cases this
          refine ⟨21, gR_o (by decide) hN1 rfl, _, sI_o (by decide) hf1 (by omega), ?_⟩
          have hN2 := hN1
          rw [← hu_n (k := 21) (j := 20) (c := iA 7 (upd f1 (pl + 1) (nI x))) (h := h1) (by decide)] at hN2
          have hT2 : TB (hu h1 21 (iA 7 (upd f1 (pl + 1) (nI x)))) t a n g := hT1.same (hu_n (by omega)) (hu_n (by omega))
          have hF2 : Fr N1 h (hu h1 21 (iA 7 (upd f1 (pl + 1) (nI x)))) := hF.tr (Fr.hu (S := N1) (Or.inr rfl))
          have hw3 : hu h1 21 (iA 7 (upd f1 (pl + 1) (nI x))) 22 = iA 7 w := by rw [hu_n (by decide)]; exact hw1
          have hfp2 : ∀ i, fil n pl i → upd f1 (pl + 1) (nI x) i = nI (if i = pl + 1 then x else p i) ∧ (if i = pl + 1 then x else p i) < n := fun i hi => by
            by_cases r : i = pl + 1
            · subst r; rw [pk_us, if_pos rfl]; exact ⟨rfl, by omega⟩
            · rw [pk_un r, if_neg r]
              have hi2 : fil n (pl + 1) i := ⟨hi.1, by rcases hi.2 with h7 | h7 <;> omega⟩
              rw [hff i hi2]; exact hfp i hi2
          have hp' : ∀ i, fil n (pl + 1) i → (if i = pl + 1 then x else p i) = p i := fun i hi => if_neg (by rcases hi.2 with h7 | h7 <;> omega)
          have hp0 : (if (0 : Nat) = pl + 1 then x else p 0) = p 0 := if_neg (by omega)
          have keepf : ∀ i, fil n (pl + 1) i → upd f1 (pl + 1) (nI x) i = f i := fun i hi => by
            rw [pk_un (by rcases hi.2 with h7 | h7 <;> omega)]; exact hff i hi
          have cce : ∀ i j, pl + 1 < i → i < j → j < n → cc g (fun i => if i = pl + 1 then x else p i) i j = cc g p i j := fun i j h1 h2 h3 => by
            unfold cc
            dsimp only
            rw [hp0, if_neg (by omega), if_neg (by omega)]
          refine s_bitsOf (p := fun i => if i = pl + 1 then x else p i) hn hT2 hN2 hu_s (by omega) hpl (fun i hi hor => hfp2 i ⟨hi, by omega⟩) (fun y hy => ⟨22, gR_o (by decide) hN2 rfl, w (pl + 1), lI_o (by decide) hw3 (by omega), ?_⟩)
          have hiff := Pb_eq hn (by omega) hy (hw (pl + 1) (by omega) hpl)
          refine ⟨fun c2 => ?_, fun c2 => ?_⟩
          · refine ihe (x + 1) _ _ (by omega) ?_ hu_s hw3 keepf hF2
            rw [nxt 0 ?_]
            · exact hN2
            · rw [if_neg nu]
              refine List.countP_eq_zero.mpr (fun l hl hk => c2 (hiff.mpr (fun j hj hjn => ?_)))
              have hKp : Kp n g (fnL l) := by
                unfold KpB at hk
                exact @of_decide_eq_true _ (Classical.propDecidable _) hk
              have h0 := (dfs_at (k := 0) hl (by simp)).1
              have hpos : ∀ i, pl + 1 ≤ i → i < n → fnL l i = (if i = pl + 1 then x else p i) := fun i hi hin => by
                have hlen : (x :: s).length = n - 1 - pl := by simp [hsl]; omega
                have := (dfs_at (k := i - (pl + 1)) hl (by omega)).2
                rw [show pl + 1 + (i - (pl + 1)) = i by omega] at this
                rw [this]
                by_cases r : i = pl + 1
                · subst r; simp
                · rw [if_neg r, show i - (pl + 1) = (i - (pl + 1 + 1)) + 1 by omega, List.getD_cons_succ, hs _ (by omega)]
                  congr 1; omega
              have := hKp (pl + 1) j (by omega) hj hjn
              unfold cc at this ⊢
              rw [h0, hpos (pl + 1) (by omega) hpl, hpos j (by omega) hjn] at this
              dsimp only
              rw [hp0]
              exact this
          · have epl : nI (pl + 1) - (1 : Int32) = nI pl := nI_pred pl
            rw [epl]
            refine ih d _ _ _ (fun i => if i = pl + 1 then x else p i) (x :: s) L _ _ (by omega) hT2 hN2 hu_s hw3 hfp2 (by simp [hsl]; omega) (fun k hk => ?_) (fun u hu => ?_) (fun i j h1 h2 h3 => ?_) (fun h3 f3 q1 q2 q3 q4 => ?_)
            · cases k with
              | zero => simp
              | succ k =>
                have hk' : k < s.length := by simpa using hk
                rw [List.getD_cons_succ, hs k hk', if_neg (by omega)]
                congr 1; omega
            · rw [b_or, bt_one (by omega) (by omega), Bool.or_eq_true, hused u hu, List.mem_cons]
              (try dsimp only)
              rw [hp0]
              constructor
              · rintro ((r | r) | r)
                · exact Or.inl r
                · exact Or.inr (Or.inr r)
                · exact Or.inr (Or.inl (of_decide_eq_true r))
              · rintro (r | r | r)
                · exact Or.inl (Or.inl r)
                · exact Or.inr (decide_eq_true r)
                · exact Or.inl (Or.inr r)
            · by_cases r : i = pl + 1
              · subst r; exact hiff.mp c2 j h2 h3
              · rw [cce i j (by omega) h2 h3]; exact hm i j (by omega) h2 h3
            · refine ihe (x + 1) h3 f3 (by omega) ?_ q2 (by rw [q4 22 (by decide)]; exact hw3) (fun i hi => ?_) (hF2.tr q4)
              · rw [nxt _ (by rw [if_neg nu]), ← Nat.add_assoc]
                (try dsimp only at q1)
                rw [hp0] at q1
                exact q1
              · rw [q3 i ⟨hi.1, by rcases hi.2 with h7 | h7 <;> omega⟩]; exact keepf i hi
    refine e_X0_keep (no_ok hN) (pk_le 1 (pl + 1) (fun _ => ?_) (fun c => absurd c (by omega)))
    exact loop n 0 h f (by omega) hN hf hw2 (fun _ _ => rfl) Fr.rf
theorem s_keeping {d : Nat} {P : Int32 → Hp → Prop} {h : Hp} {t a n : Nat} {g : Nat → Nat → Bool} (hn : n ≤ 7) (ht20 : t < 20) (ha20 : a < 20) (hT : TB h t a n g) (hN : NB0 h) (hP : ∀ h', NB0 h' → Fr N3 h h' → P (nI ((pg n (List.range n)).countP (KpB n g))) h') : CI M_X0_keeping (d + 12) [.ref 20, .ref t] h P := by
  obtain ⟨⟨L0, K0, e20⟩, ⟨f, e21⟩, w, e22⟩ := hN
  refine e_X0_keeping ⟨by decide, _, e20⟩ (s_number hn ht20 ha20 hT e20 e21 e22 (fun z h1 f1 w1 hz hf1 hw1 hid hPb hF1 => ?_))
  have e20' : h1 20 = no L0 K0 := by rw [hF1 20 (by decide)]; exact e20
  refine ⟨_, sF_o (by decide) e20' (by simp), ?_⟩
  have loop : ∀ (e x : Nat) (h2 : Hp) (f2 : Nat → Int32), x + e = n → h2 20 = no L0 (nI (((List.range x).flatMap (fun x => dfs n (n - 1) x [])).countP (KpB n g))) → h2 21 = iA 7 f2 → h2 22 = iA 7 w1 → Fr N3 h h2 → L_X0_keeping_13 (d + 11) P h2 20 t (nI x) := by
    intro e
    induction e with
    | zero =>
      intro x h2 f2 hx q20 q21 q22 hF
      have hT2 : TB h2 t a n g := hT.fr hF (by rintro (r | r | r) <;> omega) (by rintro (r | r | r) <;> omega)
      refine r_X0_keeping_13 ⟨nI n, gI_o hT2.1 hT2.2.2.1 rfl, pk_le n x (fun _ => ⟨nI n, gI_o hT2.1 hT2.2.2.1 rfl, pq_ne n 0 (fun h0 => ⟨_, gI_o (by decide) q20 rfl, ?_⟩) (fun h0 => ?_)⟩) (fun c => absurd c (by omega))⟩
      · have hxn : x = n := by omega
        subst hxn
        have := (dfsA_perm (n := x) (by omega)).countP_eq (KpB x g)
        unfold dfsA at this
        rw [this]
        exact hP h2 ⟨⟨_, _, q20⟩, ⟨f2, q21⟩, w1, q22⟩ hF
      · subst h0
        have := hP h2 ⟨⟨_, _, q20⟩, ⟨f2, q21⟩, w1, q22⟩ hF
        have e1 : (pg 0 (List.range 0)).countP (KpB 0 g) = 1 := by
          show List.countP (KpB 0 g) [[]] = 1
          rw [List.countP_cons, KpB_t (fun i j _ _ h3 => absurd h3 (by omega))]; rfl
        rw [e1] at this
        exact this
    | succ e ih =>
      intro x h2 f2 hx q20 q21 q22 hF
      have hT2 : TB h2 t a n g := hT.fr hF (by rintro (r | r | r) <;> omega) (by rintro (r | r | r) <;> omega)
      refine r_X0_keeping_13 ⟨nI n, gI_o hT2.1 hT2.2.2.1 rfl, pk_le n x (fun c => absurd c (by omega)) (fun _ => ⟨21, gR_o (by decide) q20 rfl, _, sI_o (i := 0) (by decide) q21 (by decide), nI n, gI_o hT2.1 (by rw [hu_n (by omega)]; exact hT2.2.2.1) rfl, ?_⟩)⟩
      have hT3 : TB (hu h2 21 (iA 7 (upd f2 0 (nI x)))) t a n g := hT2.same (hu_n (by omega)) (hu_n (by omega))
      have epl : nI n - (1 : Int32) = nI (n - 1) := pk_sub (a := n) (b := 1) (by omega)
      rw [epl]
      have fil0 : ∀ i, fil n (n - 1) i → i = 0 := fun i hi => by rcases hi.2 with r | r <;> omega
      have key := s_keep (g := g) (w := w1) hn ht20 ha20 hPb (n - 1) (d + 9 - n) (fun h6 => L_X0_keeping_13 (d + 11) P h6 20 t (nI x + (1 : Int32))) (hu h2 21 (iA 7 (upd f2 0 (nI x)))) (upd f2 0 (nI x)) (fun _ => x) [] L0 (ishl 1 (nI x)) _ (by omega) hT3 (by rw [hu_n (by decide)]; exact q20) hu_s (by rw [hu_n (by decide)]; exact q22) (fun i hi => by rw [fil0 i hi, pk_us]; exact ⟨rfl, by omega⟩) (by simp) (fun k hk => absurd hk (by simp)) (fun u hu => by
        rw [bt_one (by omega) (by omega), decide_eq_true_iff]
        exact ⟨fun r => Or.inl r, fun r => by rcases r with r | r; exact r; exact absurd r List.not_mem_nil⟩) (fun i j h1 h2 h3 => absurd h1 (by omega)) (fun h3 f3 p1 p2 p3 p4 => by
        rw [nI1]
        refine ih (x + 1) h3 f3 (by omega) ?_ p2 (by rw [p4 22 (by decide), hu_n (by decide)]; exact q22) (hF.tr ((Fr.hu (S := N3) (Or.inr (Or.inl rfl))).tr (p4.mono (fun k r => by rcases r with r | r; exact Or.inl r; exact Or.inr (Or.inl r)))))
        rw [List.range_succ, List.flatMap_append, List.countP_append, show List.flatMap (fun x => dfs n (n - 1) x []) [x] = dfs n (n - 1) x [] by simp]
        exact p1)
      rw [show d + 9 - n + (n - 1) + 3 = d + 11 by omega] at key
      exact key
  refine loop n 0 _ f1 (by omega) hu_s (by rw [hu_n (by decide)]; exact hf1) (by rw [hu_n (by decide)]; exact hw1) ?_
  exact (hF1.mono (fun k r => Or.inr r)).tr (Fr.hu (S := N3) (Or.inl rfl))
