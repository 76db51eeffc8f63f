/-! ===== reading and writing the function heap ===== -/
theorem gV_o {h : Hp} {c k j : Nat} {fs : List Value} {v : Value} (hk : k < 47) (he : h k = ob c fs) (hj : fs[j]? = some v) : gV h c k j = some v := by
  simp [gV, hk, he, ob, hj]
theorem gI_o {h : Hp} {c k j : Nat} {fs : List Value} {x : Int32} (hk : k < 47) (he : h k = ob c fs) (hj : fs[j]? = some (.int x)) : gI h c k j = some x := by
  simp [gI, gV_o hk he hj]
theorem gR_o {h : Hp} {c k j : Nat} {fs : List Value} {x : Nat} (hk : k < 47) (he : h k = ob c fs) (hj : fs[j]? = some (.ref x)) : gR h c k j = some x := by
  simp [gR, gV_o hk he hj]
theorem sF_o {h : Hp} {c k j : Nat} {fs : List Value} {v : Value} (hk : k < 47) (he : h k = ob c fs) (hj : j < fs.length) : sF h c k j v = some (hu h k (ob c (fs.set j v))) := by
  simp [sF, hk, he, ob, hj]
theorem inI_n {i n : Nat} (h : i < n) (hn : n < 2 ^ 31) : inI (nI i) n := by
  refine ⟨nI_pos' (by omega), ?_⟩
  rw [nI_clamp (by omega)]; exact h
theorem aInt_o {t : Nat} {h : Hp} {k n : Nat} {f : Nat → Int32} (hk : k < 47) (he : h k = .inl (t, n, .inl f)) : aInt t h k = some (n, f) := by
  simp [aInt, hk, he]
theorem aLng_o {h : Hp} {k n : Nat} {f : Nat → Int64} (hk : k < 47) (he : h k = jA n f) : aLng h k = some (n, f) := by
  simp [aLng, hk, he, jA]
theorem lI_o {h : Hp} {k n i : Nat} {f : Nat → Int32} (hk : k < 47) (he : h k = iA n f) (hi : i < n) (hn : n < 2 ^ 31 := by omega) : lI h k (nI i) = some (f i) := by
  unfold lI lT
  rw [aInt_o hk he]
  simp only [nI_clamp (show i < 2 ^ 31 by omega)]
  rw [if_pos (inI_n hi hn)]
theorem lZ_o {h : Hp} {k n i : Nat} {f : Nat → Int32} (hk : k < 47) (he : h k = zA n f) (hi : i < n) (hn : n < 2 ^ 31 := by omega) : lZ h k (nI i) = some (f i) := by
  unfold lZ lT
  rw [aInt_o hk he]
  simp only [nI_clamp (show i < 2 ^ 31 by omega)]
  rw [if_pos (inI_n hi hn)]
theorem lJ_o {h : Hp} {k n i : Nat} {f : Nat → Int64} (hk : k < 47) (he : h k = jA n f) (hi : i < n) (hn : n < 2 ^ 31 := by omega) : lJ h k (nI i) = some (f i) := by
  unfold lJ
  rw [aLng_o hk he]
  simp only [nI_clamp (show i < 2 ^ 31 by omega)]
  rw [if_pos (inI_n hi hn)]
theorem lQ_o {t : Nat} {h : Hp} {k n i x : Nat} {f : Nat → Option Nat} (hk : k < 47) (he : h k = qA t n f) (hi : i < n) (hx : f i = some x) (hn : n < 2 ^ 31 := by omega) : lQ t h k (nI i) = some x := by
  unfold lQ
  rw [show aRef t h k = some (n, f) by simp [aRef, hk, he, qA]]
  simp only [nI_clamp (show i < 2 ^ 31 by omega), hx]
  rw [if_pos (inI_n hi hn)]
theorem sI_o {h : Hp} {k n i : Nat} {f : Nat → Int32} {x : Int32} (hk : k < 47) (he : h k = iA n f) (hi : i < n) (hn : n < 2 ^ 31 := by omega) : sI h k (nI i) x = some (hu h k (iA n (upd f i x))) := by
  unfold sI
  rw [aInt_o hk he]
  simp only [nI_clamp (show i < 2 ^ 31 by omega)]
  rw [if_pos (inI_n hi hn)]
theorem sZ_o {h : Hp} {k n i : Nat} {f : Nat → Int32} {x : Int32} (hk : k < 47) (he : h k = zA n f) (hi : i < n) (hx : x = 0 ∨ x = 1) (hn : n < 2 ^ 31 := by omega) : sZ h k (nI i) x = some (hu h k (zA n (upd f i x))) := by
  unfold sZ
  rw [aInt_o hk he]
  simp only [nI_clamp (show i < 2 ^ 31 by omega)]
  rw [if_pos ⟨inI_n hi hn, hx⟩]
theorem sJ_o {h : Hp} {k n i : Nat} {f : Nat → Int64} {x : Int64} (hk : k < 47) (he : h k = jA n f) (hi : i < n) (hn : n < 2 ^ 31 := by omega) : sJ h k (nI i) x = some (hu h k (jA n (vp_updL f i x))) := by
  unfold sJ
  rw [aLng_o hk he]
  simp only [nI_clamp (show i < 2 ^ 31 by omega)]
  rw [if_pos (inI_n hi hn)]
/-- nothing but what S names has changed -/
def Fr (S : Nat → Prop) (h h' : Hp) : Prop := ∀ k, ¬ S k → h' k = h k
theorem Fr.rf {S : Nat → Prop} {h : Hp} : Fr S h h := fun _ _ => rfl
theorem Fr.tr {S : Nat → Prop} {h h1 h2 : Hp} (a : Fr S h h1) (b : Fr S h1 h2) : Fr S h h2 := fun k hk => (b k hk).trans (a k hk)
theorem Fr.hu {S : Nat → Prop} {h : Hp} {k : Nat} {c : Cl} (hk : S k) : Fr S h (hu h k c) := fun j hj => hu_n (fun e => hj (e ▸ hk))
theorem Fr.mono {S T : Nat → Prop} {h h1 : Hp} (a : Fr S h h1) (hST : ∀ k, S k → T k) : Fr T h h1 := fun k hk => a k (fun q => hk (hST k q))
theorem ne_oa {h : Hp} {t a c n : Nat} {fs : List Value} {f : Nat → Int32} (h1 : h t = ob c fs) (h2 : h a = iA n f) : t ≠ a := fun e => by
  rw [e, h2] at h1
  simp [iA, ob] at h1
/-! ===== bits ===== -/
theorem bt_ushr {x : Int32} {n : Nat} (hn : n < 32) (i : Nat) : bt (iushr x (nI n)) i = bt x (n + i) := b_ushr n hn x i
theorem bt_shl {x : Int32} {n i : Nat} (hn : n < 32) (hi : i < 32) : bt (ishl x (nI n)) i = (decide (n ≤ i) && bt x (i - n)) := b_shl n hn x hi
theorem bt_1 : ∀ i, i < 32 → bt 1 i = decide (i = 0) := by decide +kernel
theorem bt_1' (i : Nat) : bt 1 i = decide (i = 0) := by
  by_cases hi : i < 32
  · exact bt_1 i hi
  · rw [b_big (by omega)]
    have : ¬ i = 0 := by omega
    simp [this]
theorem bt_one {n i : Nat} (hn : n < 32) (hi : i < 32) : bt (ishl 1 (nI n)) i = decide (i = n) := by
  rw [bt_shl hn hi, bt_1']
  by_cases e : i = n
  · subst e; simp
  · by_cases g : n ≤ i
    · have : ¬ i - n = 0 := by omega
      simp [e, this]
    · simp [e, g]
theorem bt_bit {x : Int32} {n : Nat} (hn : n < 32) : ((iushr x (nI n)) &&& 1) = 0 ↔ bt x n = false := by
  constructor
  · intro e
    have := congrArg (fun z => bt z 0) e
    simp only [b_and, bt_ushr hn, b_0, bt_1', Nat.add_zero] at this
    simpa using this
  · intro e
    apply b_ext
    intro i hi
    rw [b_and, bt_ushr hn, b_0, bt_1']
    by_cases g : i = 0
    · subst g; simp [e]
    · simp [g]
theorem bt_z {x : Int32} : x = 0 ↔ ∀ i, i < 32 → bt x i = false := ⟨fun e i _ => by rw [e, b_0], fun e => b_ext (fun i hi => by rw [e i hi, b_0])⟩
theorem bt_low {x : Int32} : (x &&& 1) = 0 ↔ bt x 0 = false := by
  rw [bt_z]
  constructor
  · intro e
    have := e 0 (by omega)
    rw [b_and, bt_1'] at this
    simpa using this
  · intro e i _
    rw [b_and, bt_1']
    by_cases g : i = 0
    · subst g; simp [e]
    · simp [g]
theorem bt_nI {n i : Nat} (hi : i < 32) : bt (nI n) i = n.testBit i := by
  unfold bt nI
  rw [Int32.toBitVec_ofNat', BitVec.getLsbD_ofNat]
  simp [hi]
def b2i (b : Bool) : Int32 := if b then 1 else 0
theorem b2i_0 {b : Bool} : b2i b = 0 ↔ b = false := by cases b <;> simp [b2i]
/-! ===== the table of the class ===== -/
/-- the Table at t, its row of bits at a: n lines; bit j of row i is g i j -/
def TB (h : Hp) (t a n : Nat) (g : Nat → Nat → Bool) : Prop := t < 47 ∧ a < 47 ∧ h t = ob 3 [.ref a, .int (nI n)] ∧ ∃ f, h a = iA 10 f ∧ ∀ i, i < 10 → ∀ j, j < 32 → bt (f i) j = g i j
def TB0 (h : Hp) (t a : Nat) : Prop := t < 47 ∧ a < 47 ∧ (∃ v, h t = ob 3 [.ref a, .int v]) ∧ ∃ f, h a = iA 10 f
abbrev T2 (t a : Nat) : Nat → Prop := fun k => k = t ∨ k = a
theorem TB.t0 {h : Hp} {t a n : Nat} {g : Nat → Nat → Bool} (h1 : TB h t a n g) : TB0 h t a := ⟨h1.1, h1.2.1, ⟨_, h1.2.2.1⟩, h1.2.2.2.choose, h1.2.2.2.choose_spec.1⟩
theorem TB.ok {h : Hp} {t a n : Nat} {g : Nat → Nat → Bool} (h1 : TB h t a n g) : t < 47 ∧ ∃ fs, h t = .inr (3, fs) := ⟨h1.1, _, h1.2.2.1⟩
theorem TB.fr {S : Nat → Prop} {h h' : Hp} {t a n : Nat} {g : Nat → Nat → Bool} (h1 : TB h t a n g) (hf : Fr S h h') (ht : ¬ S t) (ha : ¬ S a) : TB h' t a n g := by
  obtain ⟨a1, a2, a3, a4⟩ := h1
  exact ⟨a1, a2, by rw [hf t ht]; exact a3, by rw [hf a ha]; exact a4⟩
theorem TB.eq {h : Hp} {t a n : Nat} {g g' : Nat → Nat → Bool} (h1 : TB h t a n g) (hg : ∀ i, i < 10 → ∀ j, j < 32 → g i j = g' i j) : TB h t a n g' := by
  obtain ⟨a1, a2, a3, f, a4, a5⟩ := h1
  exact ⟨a1, a2, a3, f, a4, fun i hi j hj => by rw [a5 i hi j hj, hg i hi j hj]⟩
theorem l_start {d : Nat} {P : Hp → Prop} {t a n : Nat} (h0 : Hp) : ∀ (m i : Nat) (h : Hp) (f : Nat → Int32), i + m = 10 → t < 47 → a < 47 → h t = ob 3 [.ref a, .int (nI n)] → h a = iA 10 f → (∀ j, j < i → f j = 0) → Fr (T2 t a) h0 h →
    (∀ h', TB h' t a n (fun _ _ => false) → Fr (T2 t a) h0 h' → P h') → L_X3_start_7 d P h t (nI i) := by
  intro m
  induction m with
  | zero =>
    intro i h f hi ht ha e1 e2 e3 hF hP
    refine r_X3_start_7 (pk_le 10 i (fun c => ?_) (fun c => absurd c (by omega)))
    exact hP h ⟨ht, ha, e1, f, e2, fun i hi j _ => by rw [e3 i (by omega), b_0]⟩ hF
  | succ m ih =>
    intro i h f hi ht ha e1 e2 e3 hF hP
    refine r_X3_start_7 (pk_le 10 i (fun c => absurd c (by omega)) (fun c => ?_))
    refine ⟨a, gR_o ht e1 rfl, _, sI_o ha e2 (by omega), ?_⟩
    rw [show (nI i + (1 : Int32)) = nI (i + 1) from nI_1 i]
    refine ih (i + 1) _ (upd f i 0) (by omega) ht ha ?_ hu_s ?_ (hF.tr (Fr.hu (Or.inr rfl))) hP
    · rw [hu_n (ne_oa e1 e2)]; exact e1
    · intro j hj
      by_cases q : j = i
      · rw [q]; simp [upd]
      · rw [pk_un q]; exact e3 j (by omega)
theorem s_start {d : Nat} {P : Hp → Prop} {h : Hp} {t a n : Nat} (hT : TB0 h t a) (hP : ∀ h', TB h' t a n (fun _ _ => false) → Fr (T2 t a) h h' → P h') : CV M_X3_start (d + 1) [.ref t, .int (nI n)] h P := by
  obtain ⟨ht, ha, ⟨v, e1⟩, f, e2⟩ := hT
  refine e_X3_start ⟨ht, _, e1⟩ ⟨_, sF_o ht e1 (by simp), ?_⟩
  refine l_start (n := n) h 10 0 _ f rfl ht ha hu_s ?_ (fun j hj => absurd hj (by omega)) (Fr.hu (Or.inl rfl)) hP
  rw [hu_n (ne_oa e1 e2).symm]; exact e2
