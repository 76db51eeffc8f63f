abbrev M48 : Nat → Prop := fun k => 34 ≤ k ∧ k < 39
theorem s_reckon {d : Nat} {P : Hp → Prop} {h : Hp} {n a : Nat} {m aa fd : Int32} {t : Nat → Int32} {g : Nat → Nat → Bool} {E : Nat → Int} {R : Nat → Nat → Nat → Int} (hn : n ≤ 10) (ha : a ≤ 9) (hm : h 32 = mo m aa fd) (ht : h 33 = iA 100 t) (hT : TM t n g) (hS : MS0 h) (hE : FS n (Am a g) E R) (hP : ∀ h' f, h' 38 = jA 11 f → (∀ i, i ≤ n → f i = oL (E i)) → MS0 h' → Fr M48 h h' → P h') : CV M_X5_reckon (d + 1) [.ref 32, .int (nI n), .int (nI a)] h P := by
  obtain ⟨⟨b1, c1⟩, ⟨b2, c2⟩, ⟨b3, c3⟩, ⟨b4, c4⟩, ⟨b5, c5⟩, c6, c7, c8, c9⟩ := hS
  have hb := hE.bd hn (fun i hi => Am_row ha hn i hi) 10 (by omega)
  have main : ∀ (mf : Nat → Int64), (∀ i j, i < n → j < n → mf (10 * i + j) = oL (Am a g i j)) → ∀ (e k : Nat) (h1 : Hp) (pf nf tf ef : Nat → Int64), k + e = n → h1 34 = jA 100 mf → h1 35 = jA 100 pf → h1 36 = jA 100 nf → h1 37 = jA 11 tf → h1 38 = jA 11 ef → (∀ i j, i < n → j < n → pf (10 * i + j) = oL (pP (Am a g) n k i j)) → (∀ i, 1 ≤ i → i ≤ k → tf i = oL (sn i * mu (Am a g) n i)) → (∀ i, i ≤ k → ef i = oL (E i)) → Fr M48 h h1 → L_X5_reckon_66 d P h1 32 (nI n) (nI (k + 1)) := by
    intro mf hmf e
    induction e with
    | zero =>
      intro k h1 pf nf tf ef hk q34 q35 q36 q37 q38 v1 v2 v3 hF
      have : k = n := by omega
      subst this
      refine r_X5_reckon_66 (pk_lt k (k + 1) (fun _ => hP h1 ef q38 v3 ⟨⟨_, q34⟩, ⟨_, q35⟩, ⟨_, q36⟩, ⟨_, q37⟩, ⟨_, q38⟩, by rw [hF 39 (by decide)]; exact c6, by rw [hF 40 (by decide)]; exact c7, by rw [hF 41 (by decide)]; exact c8, by rw [hF 46 (by decide)]; exact c9⟩ hF) (fun c => absurd c (by omega)))
    | succ e ih =>
      intro k h1 pf nf tf ef hk q34 q35 q36 q37 q38 v1 v2 v3 hF
      have g32 : h1 32 = mo m aa fd := by rw [hF 32 (by decide)]; exact hm
      refine r_X5_reckon_66 (pk_lt n (k + 1) (fun c => absurd c (by omega)) (fun _ => l_next hn (by omega) g32 q34 q35 q36 hmf v1 (fun h2 nf2 p36 w1 F2 => ?_)))
      have p32 : h2 32 = mo m aa fd := by rw [F2 32 (by decide)]; exact g32
      have p37 : h2 37 = jA 11 tf := by rw [F2 37 (by decide)]; exact q37
      refine ⟨37, gR_o (by decide) p32 rfl, _, sJ_o (by decide) p37 (by omega), ?_⟩
      refine l_trc (V := fun i => pP (Am a g) n (k + 1) i i) hn (by omega) (by rw [hu_n (by decide)]; exact p32) (by rw [hu_n (by decide)]; exact p36) hu_s vp_s (fun i hi => by rw [show 11 * i = 10 * i + i by omega]; exact w1 i i hi hi) (fun h3 tf3 p373 w2 w3 F3 => ?_)
      have r32 : h3 32 = mo m aa fd := by rw [F3 32 (by decide), hu_n (by decide)]; exact p32
      have r35 : h3 35 = jA 100 pf := by rw [F3 35 (by decide), hu_n (by decide), F2 35 (by decide)]; exact q35
      have r36 : h3 36 = jA 100 nf2 := by rw [F3 36 (by decide), hu_n (by decide)]; exact p36
      refine l_cpy r32 r35 r36 (fun h4 pf4 p354 w4 F4 => ?_)
      have s32 : h4 32 = mo m aa fd := by rw [F4 32 (by decide)]; exact r32
      have s38 : h4 38 = jA 11 ef := by rw [F4 38 (by decide), F3 38 (by decide), hu_n (by decide), F2 38 (by decide)]; exact q38
      have s37 : h4 37 = jA 11 tf3 := by rw [F4 37 (by decide)]; exact p373
      have w5 : ∀ i, 1 ≤ i → i ≤ k + 1 → tf3 i = oL (sn i * mu (Am a g) n i) := fun i h1 h2 => by
        by_cases q : i = k + 1
        · rw [q, w2, pP_tr]
        · rw [w3 i q, vp_n q]; exact v2 i h1 (by omega)
      refine l_all (E := E) (q := mu (Am a g) n) (by omega) s32 s37 s38 w5 v3 (hE.nw2 k) (hb (k + 1) (by omega)).2 ?_
      refine ih (k + 1) _ pf4 nf2 tf3 _ (by omega) ?_ ?_ ?_ ?_ hu_s (fun i j hi hj => by rw [w4 _ (by omega)]; exact w1 i j hi hj) w5 (fun i hi => ?_) ?_
      · rw [hu_n (by decide), F4 34 (by decide), F3 34 (by decide), hu_n (by decide), F2 34 (by decide)]; exact q34
      · rw [hu_n (by decide)]; exact p354
      · rw [hu_n (by decide), F4 36 (by decide)]; exact r36
      · rw [hu_n (by decide)]; exact s37
      · by_cases q : i = k + 1
        · rw [q, vp_s]
        · rw [vp_n q]; exact v3 i (by omega)
      · refine hF.tr ((((F2.mono (fun j hj => by show 34 ≤ j ∧ j < 39; omega)).tr (Fr.hu (S := M48) (by decide))).tr (F3.mono (fun j hj => by show 34 ≤ j ∧ j < 39; omega))).tr ((F4.mono (fun j hj => by show 34 ≤ j ∧ j < 39; omega)).tr (Fr.hu (S := M48) (by decide))))
  have loop : ∀ (e k : Nat) (h1 : Hp) (mf pf : Nat → Int64), k + e = 100 → h1 34 = jA 100 mf → h1 35 = jA 100 pf → (∀ j, j < k → mf j = if j % 11 = 0 then oL (a : Int) else (t j).toInt64) → (∀ j, j < k → pf j = if j % 11 = 0 then 1 else 0) → Fr (fun k => k = 34 ∨ k = 35) h h1 → L_X5_reckon_2 d P h1 32 (nI n) (nI a) (nI k) := by
    intro e
    induction e with
    | zero =>
      intro k h1 mf pf hk q34 q35 v1 v2 hF
      have : k = 100 := by omega
      subst this
      have g32 : h1 32 = mo m aa fd := by rw [hF 32 (by decide)]; exact hm
      have g38 : h1 38 = jA 11 b5 := by rw [hF 38 (by decide)]; exact c5
      refine r_X5_reckon_2 (pk_le 100 100 (fun _ => ⟨38, gR_o (by decide) g32 rfl, _, sJ_o (i := 0) (by decide) g38 (by decide), ?_⟩) (fun c => absurd c (by omega)))
      have key : ∀ i, i < 10 → ∀ j, j < 10 → ((10 * i + j) % 11 = 0 ↔ i = j) := by decide
      refine main mf (fun i j hi hj => ?_) n 0 _ pf b3 b4 _ (by omega) (by rw [hu_n (by decide)]; exact q34) (by rw [hu_n (by decide)]; exact q35) (by rw [hu_n (by decide), hF 36 (by decide)]; exact c3) (by rw [hu_n (by decide), hF 37 (by decide)]; exact c4) hu_s (fun i j hi hj => ?_) (fun i h1 h2 => absurd h1 (by omega)) (fun i hi => ?_) ?_
      · rw [v1 _ (by omega)]
        unfold Am
        by_cases q : i = j
        · rw [if_pos ((key i (by omega) j (by omega)).mpr q), if_pos q]
        · rw [if_neg (fun r => q ((key i (by omega) j (by omega)).mp r)), if_neg q, hT.2 i j hi hj q, pm_L]; rfl
      · rw [v2 _ (by omega), pP_0, dl_L]
        by_cases q : i = j
        · rw [if_pos ((key i (by omega) j (by omega)).mpr q), if_pos q]
        · rw [if_neg (fun r => q ((key i (by omega) j (by omega)).mp r)), if_neg q]
      · have : i = 0 := by omega
        rw [this, vp_s, hE.1]; rfl
      · exact (hF.mono (fun j hj => by show 34 ≤ j ∧ j < 39; omega)).tr (Fr.hu (S := M48) (by decide))
    | succ e ih =>
      intro k h1 mf pf hk q34 q35 v1 v2 hF
      have g32 : h1 32 = mo m aa fd := by rw [hF 32 (by decide)]; exact hm
      have g33 : h1 33 = iA 100 t := by rw [hF 33 (by decide)]; exact ht
      have er : irem (nI k) 11 = nI (k % 11) := pk_rem (d := 11) (by omega) (by decide) (by decide)
      have fin : ∀ (x y : Int64), x = (if k % 11 = 0 then oL (a : Int) else (t k).toInt64) → y = (if k % 11 = 0 then 1 else 0) → L_X5_reckon_2 d P (hu (hu h1 34 (jA 100 (vp_updL mf k x))) 35 (jA 100 (vp_updL pf k y))) 32 (nI n) (nI a) (nI k + 1) := fun x y hx hy => by
        rw [nI1]
        refine ih (k + 1) _ _ _ (by omega) (by rw [hu_n (by decide)]; exact hu_s) hu_s (fun j hj => ?_) (fun j hj => ?_) (hF.tr ((Fr.hu (S := fun k => k = 34 ∨ k = 35) (Or.inl rfl)).tr (Fr.hu (S := fun k => k = 34 ∨ k = 35) (Or.inr rfl))))
        · by_cases q : j = k
          · rw [q, vp_s, hx]
          · rw [vp_n q]; exact v1 j (by omega)
        · by_cases q : j = k
          · rw [q, vp_s, hy]
          · rw [vp_n q]; exact v2 j (by omega)
      refine r_X5_reckon_2 (pk_le 100 k (fun c => absurd c (by omega)) (fun _ => ⟨34, gR_o (by decide) g32 rfl, ?_⟩))
      rw [er]
      have dec : ∀ {A B : Prop}, (¬ k % 11 = 0 → A) → (k % 11 = 0 → B) → ((¬ nI (k % 11) = 0 → A) ∧ (nI (k % 11) = 0 → B)) := fun f1 f2 => pq_ne (k % 11) 0 f1 f2 rfl rfl (by omega) (by omega)
      refine dec (fun q => ⟨33, gR_o (by decide) g32 rfl, _, lI_o (by decide) g33 (by omega), _, sJ_o (by decide) q34 (by omega), 35, gR_o (by decide) (by rw [hu_n (by decide)]; exact g32) rfl, dec (fun _ => ⟨_, sJ_o (by decide) (by rw [hu_n (by decide)]; exact q35) (by omega), fin _ _ (by rw [if_neg q]) (by rw [if_neg q])⟩) (fun r => absurd r q)⟩) (fun q => ⟨_, sJ_o (by decide) q34 (by omega), 35, gR_o (by decide) (by rw [hu_n (by decide)]; exact g32) rfl, dec (fun r => absurd q r) (fun _ => ⟨_, sJ_o (by decide) (by rw [hu_n (by decide)]; exact q35) (by omega), fin _ _ (by rw [if_pos q, oL_n a (by omega)]) (by rw [if_pos q])⟩)⟩)
  exact e_X5_reckon (mo_ok hm) (loop 100 0 h b1 b2 (by omega) c1 c2 (fun j hj => absurd hj (by omega)) (fun j hj => absurd hj (by omega)) Fr.rf)
