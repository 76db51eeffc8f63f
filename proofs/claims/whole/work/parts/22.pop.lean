theorem nat_and256 (a c A C : Nat) (ha : a < 256) (hc : c < 256) : (a + 256 * A) &&& (c + 256 * C) = (a &&& c) + 256 * (A &&& C) := by
  have h1 : ((a + 256 * A) &&& (c + 256 * C)) % 2 ^ 8 = (a &&& c) := by
    rw [Nat.and_mod_two_pow, show (a + 256 * A) % 2 ^ 8 = a by omega, show (c + 256 * C) % 2 ^ 8 = c by omega]
  have h2 : ((a + 256 * A) &&& (c + 256 * C)) / 2 ^ 8 = (A &&& C) := by
    rw [Nat.and_div_two_pow, show (a + 256 * A) / 2 ^ 8 = A by omega, show (c + 256 * C) / 2 ^ 8 = C by omega]
  omega
def w4 (a b c e : Nat) : Nat := a + 256 * (b + 256 * (c + 256 * e))
theorem w4_and {a b c e a' b' c' e' : Nat} (h1 : a < 256) (h2 : b < 256) (h3 : c < 256) (h1' : a' < 256) (h2' : b' < 256) (h3' : c' < 256) : w4 a b c e &&& w4 a' b' c' e' = w4 (a &&& a') (b &&& b') (c &&& c') (e &&& e') := by
  unfold w4
  rw [nat_and256 _ _ _ _ h1 h1', nat_and256 _ _ _ _ h2 h2', nat_and256 _ _ _ _ h3 h3']
def q1 (b : Nat) : Nat := (b / 2) &&& 85
def q2 (b : Nat) : Nat := (b - q1 b)
def q3 (b : Nat) : Nat := (q2 b &&& 51) + ((q2 b / 4) &&& 51)
def pc8 (b : Nat) : Nat := fb_ct (fun i => b.testBit i) 8
theorem q1_ok : ∀ b, b < 256 → ∀ e, e < 2 → (b / 2 + 128 * e) &&& 85 = q1 b ∧ q1 b ≤ b := by decide +kernel
theorem q2_ok : ∀ b, b < 256 → ∀ e, e < 4 → (b / 4 + 64 * e) &&& 51 = (b / 4) &&& 51 := by decide +kernel
theorem q3_ok : ∀ b, b < 256 → q3 b % 16 ≤ 4 ∧ q3 b / 16 ≤ 4 ∧ (q3 b % 16 + q3 b / 16) = pc8 b ∧ pc8 b ≤ 8 ∧ q2 b < 256 := by decide +kernel
theorem n_and51 (b : Nat) : (b &&& 51) < 256 := Nat.lt_of_le_of_lt Nat.and_le_right (by decide)
theorem n_and85 (b : Nat) : (b &&& 85) < 256 := Nat.lt_of_le_of_lt Nat.and_le_right (by decide)
theorem n_and15 (b : Nat) : (b &&& 15) = b % 16 := Nat.and_two_pow_sub_one_eq_mod b 4
theorem pc_s1 {a b c e : Nat} (h1 : a < 256) (h2 : b < 256) (h3 : c < 256) (h4 : e < 256) : w4 a b c e - ((w4 a b c e / 2) &&& 1431655765) = w4 (q2 a) (q2 b) (q2 c) (q2 e) ∧ ((w4 a b c e / 2) &&& 1431655765) ≤ w4 a b c e := by
  have e0 : (1431655765 : Nat) = w4 85 85 85 85 := by decide
  have e1 : w4 a b c e / 2 = w4 (a / 2 + 128 * (b % 2)) (b / 2 + 128 * (c % 2)) (c / 2 + 128 * (e % 2)) (e / 2) := by unfold w4; omega
  rw [e0, e1, w4_and (by omega) (by omega) (by omega) (by decide) (by decide) (by decide)]
  obtain ⟨f1, g1⟩ := q1_ok a h1 (b % 2) (by omega)
  obtain ⟨f2, g2⟩ := q1_ok b h2 (c % 2) (by omega)
  obtain ⟨f3, g3⟩ := q1_ok c h3 (e % 2) (by omega)
  obtain ⟨f4, g4⟩ := q1_ok e h4 0 (by omega)
  rw [f1, f2, f3]
  have f4' : (e / 2 &&& 85) = q1 e := rfl
  rw [f4']
  unfold w4 q2
  omega
theorem pc_s2 {a b c e : Nat} (h1 : a < 256) (h2 : b < 256) (h3 : c < 256) (h4 : e < 256) : (w4 a b c e &&& 858993459) + ((w4 a b c e / 4) &&& 858993459) = w4 ((a &&& 51) + ((a / 4) &&& 51)) ((b &&& 51) + ((b / 4) &&& 51)) ((c &&& 51) + ((c / 4) &&& 51)) ((e &&& 51) + ((e / 4) &&& 51)) := by
  have e0 : (858993459 : Nat) = w4 51 51 51 51 := by decide
  have e1 : w4 a b c e / 4 = w4 (a / 4 + 64 * (b % 4)) (b / 4 + 64 * (c % 4)) (c / 4 + 64 * (e % 4)) (e / 4) := by unfold w4; omega
  rw [e0, e1, w4_and h1 h2 h3 (by decide) (by decide) (by decide), w4_and (a := a / 4 + 64 * (b % 4)) (by omega) (by omega) (by omega) (by decide) (by decide) (by decide)]
  rw [q2_ok a h1 (b % 4) (by omega), q2_ok b h2 (c % 4) (by omega), q2_ok c h3 (e % 4) (by omega)]
  unfold w4
  omega
theorem pc_s3 {a b c e : Nat} (h1 : a % 16 ≤ 4 ∧ a / 16 ≤ 4) (h2 : b % 16 ≤ 4 ∧ b / 16 ≤ 4) (h3 : c % 16 ≤ 4 ∧ c / 16 ≤ 4) (h4 : e % 16 ≤ 4 ∧ e / 16 ≤ 4) : ((w4 a b c e + w4 a b c e / 16) &&& 252645135) = w4 (a % 16 + a / 16) (b % 16 + b / 16) (c % 16 + c / 16) (e % 16 + e / 16) := by
  have e0 : (252645135 : Nat) = w4 15 15 15 15 := by decide
  have e1 : w4 a b c e + w4 a b c e / 16 = w4 (a + a / 16 + 16 * (b % 16)) (b + b / 16 + 16 * (c % 16)) (c + c / 16 + 16 * (e % 16)) (e + e / 16) := by unfold w4; omega
  rw [e0, e1, w4_and (by omega) (by omega) (by omega) (by decide) (by decide) (by decide)]
  rw [n_and15, n_and15, n_and15, n_and15]
  have f1 : (a + a / 16 + 16 * (b % 16)) % 16 = a % 16 + a / 16 := by omega
  have f2 : (b + b / 16 + 16 * (c % 16)) % 16 = b % 16 + b / 16 := by omega
  have f3 : (c + c / 16 + 16 * (e % 16)) % 16 = c % 16 + c / 16 := by omega
  have f4 : (e + e / 16) % 16 = e % 16 + e / 16 := by omega
  rw [f1, f2, f3, f4]
theorem pc_nat {a b c e : Nat} (h1 : a ≤ 8) (h2 : b ≤ 8) (h3 : c ≤ 8) (h4 : e ≤ 8) : ((w4 a b c e + w4 a b c e / 256) + (w4 a b c e + w4 a b c e / 256) / 65536) % 64 = a + b + c + e := by
  have e1 : w4 a b c e / 256 = b + 256 * (c + 256 * e) := by unfold w4; omega
  have e2 : w4 a b c e + w4 a b c e / 256 = (a + b) + 256 * (b + c) + 65536 * ((c + e) + 256 * e) := by rw [e1]; unfold w4; omega
  rw [e2]
  have e3 : ((a + b) + 256 * (b + c) + 65536 * ((c + e) + 256 * e)) / 65536 = (c + e) + 256 * e := by omega
  rw [e3]
  omega
theorem ct_bytes (N : Nat) : fb_ct (fun i => N.testBit i) 32 = pc8 (N % 256) + pc8 (N / 256 % 256) + pc8 (N / 65536 % 256) + pc8 (N / 16777216 % 256) := by
  have key : ∀ (M : Nat), fb_ct (fun i => M.testBit i) 8 = pc8 (M % 256) := fun M => by
    unfold pc8
    refine fb_ct_cong (fun k hk => ?_)
    rw [show (256 : Nat) = 2 ^ 8 from rfl, Nat.testBit_mod_two_pow]
    simp [hk]
  have sh : ∀ (M k i : Nat), M.testBit (k + i) = (M / 2 ^ k).testBit i := fun M k i => by rw [Nat.testBit_div_two_pow, Nat.add_comm]
  rw [show (32 : Nat) = 8 + 24 from rfl, fb_ct_split, show (24 : Nat) = 8 + 16 from rfl, fb_ct_split, show (16 : Nat) = 8 + 8 from rfl, fb_ct_split, key]
  have e1 : (fun k => N.testBit (8 + k)) = fun k => (N / 256).testBit k := funext fun k => sh N 8 k
  have e2 : (fun k => N.testBit (8 + (8 + k))) = fun k => (N / 65536).testBit k := funext fun k => by
    rw [show 8 + (8 + k) = 16 + k by omega]; exact sh N 16 k
  have e3 : (fun k => N.testBit (8 + (8 + (8 + k)))) = fun k => (N / 16777216).testBit k := funext fun k => by
    rw [show 8 + (8 + (8 + k)) = 24 + k by omega]; exact sh N 24 k
  rw [e1, e2, e3, key, key, key]
  omega
theorem iushr_nI {n k : Nat} (hn : n < 2 ^ 32) (hk : k < 32) : iushr (nI n) (nI k) = nI (n / 2 ^ k) := pk_ushrN hn (nI k) k (nf_sl k hk)
def pcA (x : Int32) : Int32 := x - ((iushr x (1 : Int32)) &&& (1431655765 : Int32))
def pcB (y : Int32) : Int32 := (y &&& (858993459 : Int32)) + ((iushr y (2 : Int32)) &&& (858993459 : Int32))
def pcC (z : Int32) : Int32 := (z + (iushr z (4 : Int32))) &&& (252645135 : Int32)
def pcD (w : Int32) : Int32 := w + iushr w (8 : Int32)
def pcE (w : Int32) : Int32 := w + iushr w (16 : Int32)
theorem pop_eq (x : Int32) : (pcE (pcD (pcC (pcB (pcA x))))) &&& (63 : Int32) = nI (fb_ct (bt x) 32) := by
  obtain ⟨N, hN, rfl⟩ := wb_of32 x
  have hct : fb_ct (bt (nI N)) 32 = fb_ct (fun i => N.testBit i) 32 := fb_ct_cong (fun k hk => bt_nI hk)
  rw [hct, ct_bytes N]
  generalize ha : N % 256 = a
  generalize hb : N / 256 % 256 = b
  generalize hc : N / 65536 % 256 = c
  generalize he : N / 16777216 % 256 = e
  have la : a < 256 := by omega
  have lb : b < 256 := by omega
  have lc : c < 256 := by omega
  have le : e < 256 := by omega
  have hNw : N = w4 a b c e := by unfold w4; omega
  subst hNw
  have k1 : iushr (nI (w4 a b c e)) (1 : Int32) = nI (w4 a b c e / 2) := iushr_nI (k := 1) hN (by decide)
  obtain ⟨s1, s1'⟩ := pc_s1 la lb lc le
  have v1 : pcA (nI (w4 a b c e)) = nI (w4 (q2 a) (q2 b) (q2 c) (q2 e)) := by
    unfold pcA
    rw [k1, show (1431655765 : Int32) = nI 1431655765 from rfl, fa_and, pk_sub s1', s1]
  rw [v1]
  obtain ⟨a1, a2, a3, a4, a5⟩ := q3_ok a la
  obtain ⟨b1, b2, b3, b4, b5⟩ := q3_ok b lb
  obtain ⟨c1, c2, c3, c4, c5⟩ := q3_ok c lc
  obtain ⟨e1, e2, e3, e4, e5⟩ := q3_ok e le
  have hw2 : w4 (q2 a) (q2 b) (q2 c) (q2 e) < 2 ^ 32 := by unfold w4; omega
  have v2 : pcB (nI (w4 (q2 a) (q2 b) (q2 c) (q2 e))) = nI (w4 (q3 a) (q3 b) (q3 c) (q3 e)) := by
    unfold pcB
    rw [show iushr (nI (w4 (q2 a) (q2 b) (q2 c) (q2 e))) (2 : Int32) = nI (w4 (q2 a) (q2 b) (q2 c) (q2 e) / 4) from iushr_nI (k := 2) hw2 (by decide), show (858993459 : Int32) = nI 858993459 from rfl, fa_and, fa_and, nI_add, pc_s2 a5 b5 c5 e5]
    rfl
  rw [v2]
  have hw3 : w4 (q3 a) (q3 b) (q3 c) (q3 e) < 2 ^ 32 := by unfold w4; omega
  have v3 : pcC (nI (w4 (q3 a) (q3 b) (q3 c) (q3 e))) = nI (w4 (pc8 a) (pc8 b) (pc8 c) (pc8 e)) := by
    unfold pcC
    rw [show iushr (nI (w4 (q3 a) (q3 b) (q3 c) (q3 e))) (4 : Int32) = nI (w4 (q3 a) (q3 b) (q3 c) (q3 e) / 16) from iushr_nI (k := 4) hw3 (by decide), nI_add, show (252645135 : Int32) = nI 252645135 from rfl, fa_and, pc_s3 ⟨a1, a2⟩ ⟨b1, b2⟩ ⟨c1, c2⟩ ⟨e1, e2⟩, a3, b3, c3, e3]
  rw [v3]
  have hw4 : w4 (pc8 a) (pc8 b) (pc8 c) (pc8 e) < 2 ^ 30 := by unfold w4; omega
  unfold pcE pcD
  rw [show iushr (nI (w4 (pc8 a) (pc8 b) (pc8 c) (pc8 e))) (8 : Int32) = nI (w4 (pc8 a) (pc8 b) (pc8 c) (pc8 e) / 256) from iushr_nI (k := 8) (by omega) (by decide), nI_add]
  rw [show iushr (nI (w4 (pc8 a) (pc8 b) (pc8 c) (pc8 e) + w4 (pc8 a) (pc8 b) (pc8 c) (pc8 e) / 256)) (16 : Int32) = nI ((w4 (pc8 a) (pc8 b) (pc8 c) (pc8 e) + w4 (pc8 a) (pc8 b) (pc8 c) (pc8 e) / 256) / 65536) from iushr_nI (k := 16) (by omega) (by decide), nI_add]
  rw [show (63 : Int32) = nI (2 ^ 6 - 1) from rfl, fa_mask]
  rw [show (2 : Nat) ^ 6 = 64 from rfl, pc_nat a4 b4 c4 e4]
theorem s_bitCount {d : Nat} {P : Int32 → Hp → Prop} {h : Hp} {x : Int32} (hP : P (nI (fb_ct (bt x) 32)) h) : CI M_J6_bitCount (d + 1) [.int x] h P := by
  refine e_J6_bitCount ?_
  show P ((pcE (pcD (pcC (pcB (pcA x))))) &&& (63 : Int32)) h
  rw [pop_eq]
  exact hP
