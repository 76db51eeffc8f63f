/-! ===== whole numbers as longs ===== -/
abbrev oL (x : Int) : Int64 := Int64.ofInt x
theorem oL_add (a b : Int) : oL (a + b) = oL a + oL b := Int64.ofInt_add a b
theorem oL_mul (a b : Int) : oL (a * b) = oL a * oL b := Int64.ofInt_mul a b
theorem oL_neg (a : Int) : oL (- a) = - oL a := Int64.ofInt_neg a
theorem oL_sub (a b : Int) : oL (a - b) = oL a - oL b := Int64.ofInt_sub a b
theorem oL_t {x : Int} (h1 : -9223372036854775808 ≤ x) (h2 : x < 9223372036854775808) : (oL x).toInt = x := by
  rw [Int64.toInt_ofInt]
  have e : (Int64.size : Int) = 18446744073709551616 := rfl
  exact Int.bmod_eq_of_le (by omega) (by omega)
theorem oL_n (n : Nat) (h : n < 2 ^ 31) : (nI n).toInt64 = oL (n : Int) := by
  rw [nI_l h]
  apply Int64.toInt_inj.mp
  rw [oL_t (by omega) (by omega), pk_lT (by omega)]
theorem oL_div {k : Nat} {e : Int} (h0 : 0 < k) (hk : k ≤ 10) (h : ab ((k : Int) * e) < 9223372036854775808) : oL ((k : Int) * e) / oL (k : Int) = oL e := by
  have e1 : (oL ((k : Int) * e)).toInt = (k : Int) * e := by
    unfold ab at h
    exact oL_t (by omega) (by omega)
  have e2 : (oL (k : Int)).toInt = (k : Int) := oL_t (by omega) (by omega)
  apply Int64.toInt_inj.mp
  rw [Int64.toInt_div, e1, e2, Int.mul_tdiv_cancel_left _ (by omega), Int64.toInt_ofInt]
theorem oL_ne0 {k : Nat} (h0 : 0 < k) (hk : k ≤ 10) : ¬ oL (k : Int) = 0 := by
  intro h
  have e2 : (oL (k : Int)).toInt = (k : Int) := oL_t (by omega) (by omega)
  rw [h] at e2
  have : (0 : Int64).toInt = 0 := by decide
  omega
theorem vp_s {f : Nat → Int64} {k : Nat} {x : Int64} : vp_updL f k x k = x := pk_uLs
theorem vp_n {f : Nat → Int64} {k j : Nat} {x : Int64} (h : j ≠ k) : vp_updL f k x j = f j := pk_uLn h
/-- the table with one number all down its diagonal -/
def Am (a : Nat) (g : Nat → Nat → Bool) (i j : Nat) : Int := if i = j then (a : Int) else if g i j then -1 else 1
theorem Am_sy {a n : Nat} {g : Nat → Nat → Bool} (h : WF n g) : SY (Am a g) := fun i j => by
  unfold Am
  by_cases q : i = j
  · subst q; rfl
  · rw [if_neg q, h.1 i j, if_neg (show ¬ j = i from fun r => q r.symm)]
theorem Am_row {a n : Nat} {g : Nat → Nat → Bool} (ha : a ≤ 9) (hn : n ≤ 10) (i : Nat) (hi : i < n) : sm (fun j => ab (Am a g i j)) n ≤ 18 := by
  have h1 : sm (fun j => ab (Am a g i j)) n ≤ sm (fun j => 1 + dl i j * 8) n := sm_le (fun j _ => by
    unfold Am dl
    by_cases q : i = j
    · rw [if_pos q, if_pos q]; unfold ab; omega
    · rw [if_neg q, if_neg q]; cases g i j <;> decide)
  rw [sm_add, sm_one, sm_dl (f := fun _ => 8) hi] at h1
  omega
