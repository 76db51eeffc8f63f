/-! ===== plain, kinds ===== -/
theorem upd_comm {t : Nat → Int32} {i j : Nat} {v : Int32} : upd (upd t i v) j v = upd (upd t j v) i v := by
  funext k; unfold upd; by_cases h1 : k = i <;> by_cases h2 : k = j <;> simp [h1, h2]
theorem nam_ad (x : Int32) (J : Nat) : ∀ u v, u < J + 1 → v < J + 1 → u ≠ v → adg (nam (bt x) J) (fun i => if i = 0 then false else bt x (bop i J)) J J u v = nam (bt x) (J + 1) u v := by
  intro u v hu hv huv
  unfold adg nam nmg
  by_cases a1 : u = J
  · subst a1
    rw [if_pos (by omega), if_neg (by omega)]
    dsimp only
    by_cases a2 : v = 0
    · rw [if_pos a2, if_neg (by omega)]
    · rw [if_neg a2, if_pos (by omega)]
  · rw [if_neg (by omega)]
    by_cases a2 : v = J
    · subst a2
      rw [if_pos (by omega)]
      dsimp only
      by_cases a3 : u = 0
      · rw [if_pos a3, if_neg (by omega), if_neg (by omega)]
      · rw [if_neg a3, if_pos (by omega)]
    · rw [if_neg (by omega)]
      have e1 : (1 ≤ u ∧ u < v ∧ (v < J ∨ (v = J ∧ u < 1))) ↔ (1 ≤ u ∧ u < v ∧ (v < J + 1 ∨ (v = J + 1 ∧ u < 1))) := by omega
      have e2 : (1 ≤ v ∧ v < u ∧ (u < J ∨ (u = J ∧ v < 1))) ↔ (1 ≤ v ∧ v < u ∧ (u < J + 1 ∨ (u = J + 1 ∧ v < 1))) := by omega
      simp only [e1, e2]
theorem s_spell {d : Nat} {P : Hp → Prop} {h : Hp} {n : Nat} {m a fd x : Int32} {t : Nat → Int32} (hn : n ≤ 7) (hm : h 32 = mo m a fd) (ht : h 33 = iA 100 t) (h0 : ∀ i, i < 10 → t (11 * i) = 0) (hP : ∀ h' t', h' 33 = iA 100 t' → TM t' n (nam (bt x) n) → Fr M1 h h' → P h') : CV M_X5_spell (d + 2) [.ref 32, .int (nI n), .int x] h P := by
  have loop : ∀ (e J : Nat) (h1 : Hp) (t1 : Nat → Int32), n ≤ J + e → 1 ≤ J → J ≤ 8 → h1 33 = iA 100 t1 → TM t1 J (nam (bt x) J) → (e = 0 → TM t1 n (nam (bt x) n)) → Fr M1 h h1 → L_X5_spell_5 (d + 1) P h1 32 (nI n) x (nI (bop 1 J)) (nI J) := by
    intro e
    induction e with
    | zero =>
      intro J h1 t1 hJ hJ1 hJ8 ht1 hT hz hF
      exact r_X5_spell_5 (pk_le n J (fun _ => hP h1 t1 ht1 (hz rfl) hF) (fun c => absurd c (by omega)))
    | succ e ih =>
      intro J h1 t1 hJ hJ1 hJ8 ht1 hT hz hF
      by_cases hlt : n ≤ J
      · refine r_X5_spell_5 (pk_le n J (fun _ => hP h1 t1 ht1 ?_ hF) (fun c => absurd c (by omega)))
        refine ⟨hT.1, fun u v hu hv huv => ?_⟩
        rw [hT.2 u v (by omega) (by omega) huv]
        congr 1
        unfold nam nmg
        have e1 : (1 ≤ u ∧ u < v ∧ (v < J ∨ (v = J ∧ u < 1))) ↔ (1 ≤ u ∧ u < v ∧ (v < n ∨ (v = n ∧ u < 1))) := by omega
        have e2 : (1 ≤ v ∧ v < u ∧ (u < J ∨ (u = J ∧ v < 1))) ↔ (1 ≤ v ∧ v < u ∧ (u < n ∨ (u = n ∧ v < 1))) := by omega
        simp only [e1, e2]
      · have hm1 : h1 32 = mo m a fd := by rw [hF 32 (by decide)]; exact hm
        refine r_X5_spell_5 (pk_le n J (fun c => absurd c hlt) (fun _ => s_setM (i := 0) hm1 ht1 (by decide) (by omega) (fun h2 ht2 hF2 => ?_)))
        have inner : ∀ (k I : Nat) (h3 : Hp) (t3 : Nat → Int32), I + k = J → 1 ≤ I → h3 33 = iA 100 t3 → RM t3 J (nam (bt x) J) (fun i => if i = 0 then false else bt x (bop i J)) I → Fr M1 h h3 → L_X5_spell_22 (d + 1) P h3 32 (nI n) x (nI (bop I J)) (nI J) (nI I) := by
          intro k
          induction k with
          | zero =>
            intro I h3 t3 hI hI1 ht3 hR hF3
            refine r_X5_spell_22 (pk_le J I (fun _ => ?_) (fun c => absurd c (by omega)))
            have : I = J := by omega
            subst this
            have eb : bop I I = bop 1 (I + 1) := by
              by_cases q : I = 1
              · subst q; decide
              · exact bop_end I (by omega) (by omega)
            rw [nI1, eb]
            have hf := hR.full.eq (nam_ad x I)
            refine ih (I + 1) h3 t3 (by omega) (by omega) (by omega) ht3 hf (fun he => ?_) hF3
            have : n = I + 1 := by omega
            rw [this]; exact hf
          | succ k ihk =>
            intro I h3 t3 hI hI1 ht3 hR hF3
            have hm3 : h3 32 = mo m a fd := by rw [hF3 32 (by decide)]; exact hm
            have hb := bop_lt hI1 (show I < J by omega) (by omega)
            have fin : ∀ v, v = pm (bt x (bop I J)) → CV M_X5_set (d + 1) [.ref 32, .int (nI I), .int (nI J), .int v] h3 (fun h6 => L_X5_spell_22 (d + 1) P h6 32 (nI n) x (nI (bop I J) + (1 : Int32)) (nI J) (nI I + (1 : Int32))) := fun v hv => by
              refine s_setM hm3 ht3 (by omega) (by omega) (fun h4 ht4 hF4 => ?_)
              rw [nI1, nI1, bop_sc hI1]
              rw [upd_comm] at ht4
              refine ihk (I + 1) h4 _ (by omega) (by omega) ht4 (hR.set (by omega) (by omega) ?_) (hF3.tr hF4)
              rw [hv, if_neg (by omega)]
            exact r_X5_spell_22 (pk_le J I (fun c => absurd c (by omega)) (fun _ => bitcases (by omega) (fun q => fin 1 (by rw [q]; rfl)) (fun q => fin (-1) (by rw [q]; rfl))))
        refine inner (J - 1) 1 h2 _ (by omega) (by omega) ht2 ?_ (hF.tr hF2)
        rw [upd_comm]
        exact RM.set (k := 0) (by omega) (by omega) ⟨hT, fun i hi => absurd hi (by omega)⟩ (by rfl)
  refine e_X5_spell (mo_ok hm) ?_
  refine loop n 1 h t (by omega) (by omega) (by omega) ht ⟨h0, fun u v hu hv huv => absurd huv (by omega)⟩ (fun he => ⟨h0, fun u v hu hv huv => absurd hu (by omega)⟩) Fr.rf
theorem upd_lt {s t : Nat → Int32} {k : Nat} (h : ∀ j, j < k → s j = t j) : ∀ j, j < k + 1 → upd s k (t k) j = t j := fun j hj => by
  by_cases q : j = k
  · rw [q, pk_us]
  · rw [pk_un q]; exact h j (by omega)
abbrev M3 : Nat → Prop := fun k => k = 33 ∨ k = 40 ∨ k = 41
theorem MX.nm {h h' : Hp} {n a : Nat} {g g' : Nat → Nat → Bool} {fd : Int32} {sh : Sh} {f' s' t' : Nat → Int32} (x : MX h n g a fd sh) (ht : h' 33 = iA 100 t') (hT : TM t' n g') (hf : h' 40 = iA 7 f') (hs : h' 41 = iA 100 s') (f : Fr M3 h h') : MX h' n g' a fd sh := by
  obtain ⟨a1, a2, ⟨b1, b2, b3, b4, b5, b6, b7, b8, b9⟩, a4⟩ := x
  have e : ∀ k, k ≠ 33 ∧ k ≠ 40 ∧ k ≠ 41 → h' k = h k := fun k hk => f k (by rintro (r | r | r) <;> omega)
  exact ⟨by rw [e 32 (by decide)]; exact a1, ⟨t', ht, hT⟩, ⟨by rw [e 34 (by decide)]; exact b1, by rw [e 35 (by decide)]; exact b2, by rw [e 36 (by decide)]; exact b3, by rw [e 37 (by decide)]; exact b4, by rw [e 38 (by decide)]; exact b5, by rw [e 39 (by decide)]; exact b6, ⟨f', hf⟩, ⟨s', hs⟩, by rw [e 46 (by decide)]; exact b9⟩, a4.eq (fun k _ _ => e k (by omega))⟩
theorem M3C {k : Nat} (h : M3 k) : MM32 k := by rcases h with rfl | rfl | rfl <;> decide
def dif (n : Nat) (g g' : Nat → Nat → Bool) (i : Nat) : Nat → Bool
  | 0 => false
  | k + 1 => dif n g g' i k || (g i k != g' i k)
theorem dif_iff {n : Nat} {g g' : Nat → Nat → Bool} {i : Nat} : ∀ k, dif n g g' i k = true ↔ ∃ j, j < k ∧ g i j ≠ g' i j
  | 0 => by simp [dif]
  | k + 1 => by
    unfold dif
    rw [Bool.or_eq_true, dif_iff k]
    constructor
    · rintro (⟨j, h1, h2⟩ | h)
      · exact ⟨j, by omega, h2⟩
      · exact ⟨k, by omega, by simpa using h⟩
    · rintro ⟨j, h1, h2⟩
      by_cases q : j = k
      · subst q; exact Or.inr (by simpa using h2)
      · exact Or.inl ⟨j, by omega, h2⟩
theorem pm_inj {a b : Bool} : pm a = pm b ↔ a = b := by cases a <;> cases b <;> decide
theorem l_plain60 {d : Nat} {P : Int32 → Hp → Prop} {h : Hp} {n : Nat} {a fd : Int32} {s t : Nat → Int32} {g g' : Nat → Nat → Bool} (hn : n ≤ 10) (hm : h 32 = mo (nI n) a fd) (hs : h 41 = iA 100 s) (ht : h 33 = iA 100 t) (hS : TM s n g) (hT : TM t n g') (hg : ∀ x, g x x = false) (hg' : ∀ x, g' x x = false) (hP : P (nI (fb_ct (fun i => dif n g g' i n) n)) h) : ∀ (e I : Nat), I + e = n → L_X5_plain_60 d P h 32 (nI (fb_ct (fun i => dif n g g' i n) I)) (nI I) := by
  intro e
  induction e with
  | zero =>
    intro I hI
    refine r_X5_plain_60 ⟨nI n, gI_o (by decide) hm rfl, pk_le n I (fun _ => ?_) (fun c => absurd c (by omega))⟩
    rw [show I = n by omega]; exact hP
  | succ e ih =>
    intro I hI
    refine r_X5_plain_60 ⟨nI n, gI_o (by decide) hm rfl, pk_le n I (fun c => absurd c (by omega)) (fun _ => ?_)⟩
    have inner : ∀ (k J : Nat), J + k = n → L_X5_plain_74 d P h 32 (nI (fb_ct (fun i => dif n g g' i n) I)) (nI I) (b2i (dif n g g' I J)) (nI J) := by
      intro k
      induction k with
      | zero =>
        intro J hJ
        refine r_X5_plain_74 ⟨nI n, gI_o (by decide) hm rfl, pk_le n J (fun _ => ?_) (fun c => absurd c (by omega))⟩
        have hJn : J = n := by omega
        subst hJn
        have := ih (I + 1) (by omega)
        rw [fb_ct_succ] at this
        refine zb (fun c => ?_) (fun c => ?_)
        · rw [c] at this
          rw [nI0, nI1]; exact this
        · rw [c] at this
          rw [nI1, nI1]; exact this
      | succ k ihk =>
        intro J hJ
        refine r_X5_plain_74 ⟨nI n, gI_o (by decide) hm rfl, pk_le n J (fun c => absurd c (by omega)) (fun _ => ?_)⟩
        rw [l10]
        refine ⟨41, gR_o (by decide) hm rfl, _, lI_o (by decide) hs (by omega), 33, gR_o (by decide) hm rfl, _, lI_o (by decide) ht (by omega), ?_⟩
        have hiff : s (10 * I + J) = t (10 * I + J) ↔ g I J = g' I J := by
          by_cases q : I = J
          · subst q
            rw [show 10 * I + I = 11 * I by omega, hS.1 I (by omega), hT.1 I (by omega), hg, hg']
            exact ⟨fun _ => rfl, fun _ => rfl⟩
          · rw [hS.2 I J (by omega) (by omega) q, hT.2 I J (by omega) (by omega) q, pm_inj]
        have := ihk (J + 1) (by omega)
        rw [show dif n g g' I (J + 1) = (dif n g g' I J || (g I J != g' I J)) from rfl] at this
        rw [nI1, hiff]
        refine ⟨fun c => ?_, fun c => ?_⟩
        · rw [c, bne_self_eq_false, Bool.or_false] at this
          rw [show (b2i (dif n g g' I J) ||| (0 : Int32)) = b2i (dif n g g' I J) by cases dif n g g' I J <;> decide]
          exact this
        · rw [show (g I J != g' I J) = true by simpa using c, Bool.or_true] at this
          rw [show (b2i (dif n g g' I J) ||| (1 : Int32)) = b2i true by cases dif n g g' I J <;> decide]
          exact this
    exact inner n 0 (by omega)
theorem TM.upto {s t : Nat → Int32} {n : Nat} {g : Nat → Nat → Bool} (hn : n ≤ 10) (h : TM t n g) (e : ∀ k, k < 100 → s k = t k) : TM s n g := ⟨fun i hi => by rw [e _ (by omega)]; exact h.1 i hi, fun i j hi hj hij => by rw [e _ (by omega)]; exact h.2 i j hi hj hij⟩
theorem s_plainM {d : Nat} {P : Int32 → Hp → Prop} {h : Hp} {n a : Nat} {fd r : Int32} {g : Nat → Nat → Bool} {sh : Sh} (hn : n ≤ 7) (hg : WF n g) (hM : MX h n g a fd sh) (hr : isMin n g r) (hP : ∀ h', MX h' n (nam (bt r) n) a fd sh → Fr MM32 h h' → P (nI (fb_ct (fun i => dif n g (nam (bt r) n) i n) n)) h') : CI M_X5_plain (d + 4) [.ref 32] h P := by
  obtain ⟨t, ht, hT⟩ := hM.2.1
  obtain ⟨f, hf⟩ := hM.2.2.1.2.2.2.2.2.2.1
  obtain ⟨s0, hs0⟩ := hM.2.2.1.2.2.2.2.2.2.2.1
  refine e_X5_plain (mo_ok hM.1) ⟨nI n, m0 hM, fun _ => ⟨nI n, m0 hM, s_nameOf hn hM.1 hf ht hT (fun r' h1 f1 m1 m2 m3 => ?_)⟩, fun c => absurd (nI_le hn (by decide)) c⟩
  rw [m1.uniq hr]
  have loop : ∀ (e k : Nat) (h2 : Hp) (s : Nat → Int32), k + e = 100 → h2 41 = iA 100 s → (∀ j, j < k → s j = t j) → h2 40 = iA 7 f1 → Fr (fun k => k = 40 ∨ k = 41) h h2 → L_X5_plain_23 (d + 3) P h2 32 r (nI k) := by
    intro e
    induction e with
    | zero =>
      intro k h2 s hk hs he h40 hF
      have hm2 : h2 32 = mo (nI n) (nI a) fd := by rw [hF 32 (by decide)]; exact hM.1
      have hk : k = 100 := by omega
      subst hk
      refine r_X5_plain_23 (pk_le 100 100 (fun _ => ⟨nI n, gI_o (by decide) hm2 rfl, s_spell hn hm2 (by rw [hF 33 (by decide)]; exact ht) hT.1 (fun h3 t3 q1 q2 q3 => ?_)⟩) (fun c => absurd c (by omega)))
      have hF3 : Fr M3 h h3 := (hF.mono (fun k r => Or.inr r)).tr (q3.mono (fun k r => Or.inl r))
      have h41 : h3 41 = iA 100 s := by rw [q3 41 (by decide)]; exact hs
      refine l_plain60 (g := g) (g' := nam (bt r) n) (by omega) (by rw [q3 32 (by decide)]; exact hm2) h41 q1 (hT.upto (by omega) he) q2 hg.2.1 (wf_nam _ n).2.1 ?_ n 0 (by omega)
      exact hP h3 (hM.nm q1 q2 (by rw [q3 40 (by decide)]; exact h40) h41 hF3) (hF3.mono (fun _ => M3C))
    | succ e ih =>
      intro k h2 s hk hs he h40 hF
      have hm2 : h2 32 = mo (nI n) (nI a) fd := by rw [hF 32 (by decide)]; exact hM.1
      refine r_X5_plain_23 (pk_le 100 k (fun c => absurd c (by omega)) (fun _ => ⟨41, gR_o (by decide) hm2 rfl, 33, gR_o (by decide) hm2 rfl, _, lI_o (by decide) (by rw [hF 33 (by decide)]; exact ht) (by omega), _, sI_o (by decide) hs (by omega), ?_⟩))
      rw [nI1]
      exact ih (k + 1) _ _ (by omega) hu_s (upd_lt he) (by rw [hu_n (by decide)]; exact h40) (hF.tr (Fr.hu (S := fun k => k = 40 ∨ k = 41) (Or.inr rfl)))
  exact loop 100 0 h1 s0 (by omega) (by rw [m3 41 (by decide)]; exact hs0) (fun j hj => absurd hj (by omega)) m2 (m3.mono (fun k r => Or.inl r))
theorem s_plainX {d : Nat} {P : Int32 → Hp → Prop} {h : Hp} {n a : Nat} {fd r : Int32} {g : Nat → Nat → Bool} {sh : Sh} (hn : n ≤ 7) (hg : WF n g) (hC : CX h n g a fd sh) (hr : isMin n g r) (hP : ∀ h', CX h' n (nam (bt r) n) a fd sh → Fr CC32 h h' → P (nI (fb_ct (fun i => dif n g (nam (bt r) n) i n) n)) h') : CI M_X4_plain (d + 13) [.ref 0] h P := by
  refine e_X4_plain hC.ok ⟨1, g0 hC, nI n, gsz hC, fun _ => ⟨3, g1 hC, 1, g0 hC, nI n, gsz hC, 20, g3 hC, 1, g0 hC, s_least hn (by decide) (by decide) hC.2.1 hC.2.2.2.2.1 (fun r' h1 m1 m2 m3 => ?_)⟩, fun c => absurd (nI_le hn (by decide)) c⟩
  rw [m1.uniq hr]
  have hC1 := hC.nb m2 m3
  refine s_startNamed hn hC1.2.2.1 (fun h2 hT2 hF2 => ?_)
  have hC2 := hC1.other hT2.t0 hF2
  have hF02 : Fr CC32 h h2 := (m3.mono (fun _ => N3C)).tr (hF2.mono (fun k q => by rcases q with rfl | rfl <;> decide))
  obtain ⟨-, -, c1, f0, c2, c3⟩ := hC2.2.1
  obtain ⟨-, -, o1, fo, o2, o3⟩ := hT2
  have hwf := wf_nam (bt r) n
  have loop : ∀ (e I : Nat) (h3 : Hp) (f : Nat → Int32), I + e = n → h3 2 = iA 10 f → (∀ i, i < I → f i = fo i) → (∀ i, I ≤ i → f i = f0 i) → Fr (fun k => k = 2) h2 h3 → L_X4_plain_44 (d + 12) P h3 0 (nI (fb_ct (fun i => dif n g (nam (bt r) n) i n) I)) (nI I) := by
    intro e
    induction e with
    | zero =>
      intro I h3 f hI hf b1 b2 hF3
      have hI : I = n := by omega
      subst hI
      have hT3 : TB h3 1 2 I (nam (bt r) I) := ⟨by decide, by decide, by rw [hF3 1 (by decide)]; exact c1, f, hf, fun i hi j hj => by
        by_cases q : i < I
        · rw [b1 i q]; exact o3 i hi j hj
        · rw [b2 i (by omega), c3 i hi j hj, hg.2.2 i j (by omega), hwf.2.2 i j (by omega)]⟩
      have hC3 : CX h3 I (nam (bt r) I) a fd sh := hC2.tab hT3 (hF3.mono (fun k q => Or.inr q))
      refine r_X4_plain_44 ⟨1, g0 hC3, nI I, gsz hC3, pk_le I I (fun _ => ?_) (fun c => absurd c (by omega))⟩
      exact hP h3 hC3 (hF02.tr (hF3.mono (fun k q => by rw [show k = 2 from q]; decide)))
    | succ e ih =>
      intro I h3 f hI hf b1 b2 hF3
      have e0 : h3 0 = eo (nI a) fd := by rw [hF3 0 (by decide)]; exact hC2.1
      have e1 : h3 1 = ob 3 [.ref 2, .int (nI n)] := by rw [hF3 1 (by decide)]; exact c1
      have e3 : h3 3 = ob 3 [.ref 4, .int (nI n)] := by rw [hF3 3 (by decide)]; exact o1
      have e4 : h3 4 = iA 10 fo := by rw [hF3 4 (by decide)]; exact o2
      refine r_X4_plain_44 ⟨1, gR_o (by decide) e0 rfl, nI n, gI_o (by decide) e1 rfl, pk_le n I (fun c => absurd c (by omega)) (fun _ => ⟨1, gR_o (by decide) e0 rfl, 2, gR_o (by decide) e1 rfl, f I, lI_o (by decide) hf (by omega), 3, gR_o (by decide) e0 rfl, 4, gR_o (by decide) e3 rfl, fo I, lI_o (by decide) e4 (by omega), ?_⟩)⟩
      have hiff : f I = fo I ↔ dif n g (nam (bt r) n) I n = false := by
        rw [b2 I (Nat.le_refl I)]
        constructor
        · intro q
          cases hd : dif n g (nam (bt r) n) I n
          · rfl
          · obtain ⟨j, h1, h2⟩ := (dif_iff n).mp hd
            exact absurd (by rw [← c3 I (by omega) j (by omega), ← o3 I (by omega) j (by omega), q]) h2
        · intro q
          refine b_ext (fun k hk => ?_)
          rw [c3 I (by omega) k hk, o3 I (by omega) k hk]
          by_cases hk2 : k < n
          · refine Classical.byContradiction fun h3 => ?_
            rw [(dif_iff n).mpr ⟨k, hk2, h3⟩] at q; cases q
          · rw [hg.r (by omega), hwf.r (by omega)]
      have fin : ∀ c : Nat, c = fb_ct (fun i => dif n g (nam (bt r) n) i n) (I + 1) → ∃ q9, gR h3 4 0 0 = some q9 ∧ ∃ q10, gR h3 3 q9 0 = some q10 ∧ ∃ q11, gR h3 4 0 1 = some q11 ∧ ∃ q12, gR h3 3 q11 0 = some q12 ∧ ∃ x13, lI h3 q12 (nI I) = some x13 ∧ ∃ h14, sI h3 q10 (nI I) x13 = some h14 ∧ L_X4_plain_44 (d + 12) P h14 0 (nI c) (nI I + (1 : Int32)) := fun c hc => by
        refine ⟨1, gR_o (by decide) e0 rfl, 2, gR_o (by decide) e1 rfl, 3, gR_o (by decide) e0 rfl, 4, gR_o (by decide) e3 rfl, fo I, lI_o (by decide) e4 (by omega), _, sI_o (by decide) hf (by omega), ?_⟩
        rw [nI1, hc]
        refine ih (I + 1) _ _ (by omega) hu_s (upd_lt b1) (fun i hi => ?_) (hF3.tr (Fr.hu (S := fun k => k = 2) rfl))
        rw [pk_un (by omega)]; exact b2 i (by omega)
      refine ⟨fun q => fin _ ?_, fun q => ?_⟩
      · rw [fb_ct_succ, hiff.mp q]; rfl
      · have q2 : dif n g (nam (bt r) n) I n = true := by
          cases hd : dif n g (nam (bt r) n) I n
          · exact absurd (hiff.mpr hd) q
          · rfl
        have := fin (fb_ct (fun i => dif n g (nam (bt r) n) i n) I + 1) (by rw [fb_ct_succ, q2]; rfl)
        rw [← nI1] at this
        exact this
  exact loop n 0 h2 f0 (by omega) c2 (fun i hi => absurd hi (by omega)) (fun _ _ => rfl) Fr.rf
theorem op_plain {n a : Nat} {g : Nat → Nat → Bool} {fd : Int32} {sh : Sh} (G : Gd n g a sh) : OpI M_X4_plain M_X5_plain [] n g a fd sh := by
  have hn := G.1
  by_cases q : n ≤ 7
  · obtain ⟨r, hr⟩ := isMin_exist n g q
    refine ⟨nI (fb_ct (fun i => dif n g (nam (bt r) n) i n) n), n, nam (bt r) n, a, fd, sh, ⟨hn, wf_nam _ n, G.2.2⟩, fun d h P hC hP => ?_, fun d h P hM hP => ?_⟩
    · exact s_plainX q G.2.1 hC hr hP
    · exact s_plainM q G.2.1 hM hr hP
  · have c : ¬ nI n ≤ 7 := nI_ge (show 7 < n by omega) (by omega)
    refine ⟨-3, n, g, a, fd, sh, G, fun d h P hC hP => ?_, fun d h P hM hP => ?_⟩
    · exact e_X4_plain hC.ok ⟨1, g0 hC, nI n, gsz hC, fun r => absurd r c, fun _ => hP h hC Fr.rf⟩
    · exact e_X5_plain (mo_ok hM.1) ⟨nI n, m0 hM, fun r => absurd r c, fun _ => hP h hM Fr.rf⟩
