/-! the heap with which the law begins -/
def h00 : Hp := fun k => match k with
  | 0 => eo (nI 3) 0
  | 1 => ob 3 [.ref 2, .int (nI 0)]
  | 2 => iA 10 zI
  | 3 => ob 3 [.ref 4, .int 0]
  | 4 => iA 10 zI
  | 5 => ob 2 [.ref 6, .ref 7, .ref 8, .int 0, .int 0]
  | 6 => jA 12 zJ
  | 7 => qA 4 11 (fun i => if i < 11 then some (9 + i) else none)
  | 8 => jA 11 zJ
  | 9 => jA 100 zJ
  | 10 => jA 100 zJ
  | 11 => jA 100 zJ
  | 12 => jA 100 zJ
  | 13 => jA 100 zJ
  | 14 => jA 100 zJ
  | 15 => jA 100 zJ
  | 16 => jA 100 zJ
  | 17 => jA 100 zJ
  | 18 => jA 100 zJ
  | 19 => jA 100 zJ
  | 20 => ob 0 [.ref 21, .ref 22, .int 0, .int 0]
  | 21 => iA 7 zI
  | 22 => iA 7 zI
  | 23 => qA 3 4 (fun i => if i < 4 then some (24 + 2 * i) else none)
  | 24 => ob 1 [.ref 25, .int 1, .int 0, .int 0]
  | 25 => iA 100 zI
  | 26 => ob 1 [.ref 27, .int 1, .int 0, .int 0]
  | 27 => iA 100 zI
  | 28 => ob 1 [.ref 29, .int 1, .int 0, .int 0]
  | 29 => iA 100 zI
  | 30 => ob 1 [.ref 31, .int 1, .int 0, .int 0]
  | 31 => iA 100 zI
  | 32 => mo (nI 0) (nI 3) 0
  | 33 => iA 100 zI
  | 34 => jA 100 zJ
  | 35 => jA 100 zJ
  | 36 => jA 100 zJ
  | 37 => jA 11 zJ
  | 38 => jA 11 zJ
  | 39 => jA 11 zJ
  | 40 => iA 7 zI
  | 41 => iA 100 zI
  | 42 => zA 4 zI
  | 43 => iA 4 zI
  | 44 => iA 4 zI
  | 45 => iA 400 zI
  | 46 => iA 100 zI
  | _ => iA 0 zI
def g00 : Nat → Nat → Bool := fun _ _ => false
def sh00 : Sh := fun _ => none
theorem G00 : Gd 0 g00 3 sh00 := ⟨by decide, ⟨fun _ _ => rfl, fun _ => rfl, fun _ _ _ => rfl⟩, Or.inl rfl, fun s _ fo sz it h => by cases h⟩
theorem bt_0 (j : Nat) (hj : j < 32) : bt (zI 0) j = false := by
  show bt 0 j = false
  have h : (List.range 32).all (fun j => bt 0 j == false) = true := by decide +kernel
  have := List.all_eq_true.mp h j (List.mem_range.mpr hj)
  simpa using this
theorem C00 : CX h00 0 g00 3 0 sh00 := by
  refine ⟨rfl, ⟨by decide, by decide, rfl, zI, rfl, fun i _ j hj => bt_0 j hj⟩, ⟨by decide, by decide, ⟨0, rfl⟩, zI, rfl⟩, ⟨⟨0, 0, rfl⟩, ⟨zJ, rfl⟩, rfl, ⟨zJ, rfl⟩, fun i hi => ⟨zJ, ?_⟩⟩, ⟨⟨0, 0, rfl⟩, ⟨zI, rfl⟩, zI, rfl⟩, rfl, fun s hs => ?_⟩
  · rcases (show i = 0 ∨ i = 1 ∨ i = 2 ∨ i = 3 ∨ i = 4 ∨ i = 5 ∨ i = 6 ∨ i = 7 ∨ i = 8 ∨ i = 9 ∨ i = 10 by omega) with rfl | rfl | rfl | rfl | rfl | rfl | rfl | rfl | rfl | rfl | rfl <;> rfl
  · rcases (show s = 0 ∨ s = 1 ∨ s = 2 ∨ s = 3 by omega) with rfl | rfl | rfl | rfl <;> exact ⟨0, 0, zI, rfl, rfl⟩
theorem M00 : MX h00 0 g00 3 0 sh00 := by
  refine ⟨rfl, ⟨zI, rfl, fun _ _ => rfl, fun i j hi => absurd hi (Nat.not_lt_zero _)⟩, ⟨⟨zJ, rfl⟩, ⟨zJ, rfl⟩, ⟨zJ, rfl⟩, ⟨zJ, rfl⟩, ⟨zJ, rfl⟩, ⟨zJ, rfl⟩, ⟨zI, rfl⟩, ⟨zI, rfl⟩, zI, rfl⟩, zI, zI, zI, zI, rfl, rfl, rfl, rfl, fun s _ => rfl⟩
/-- where the cells lie -/
def adL (b : Nat) (L : List Nat) : Nat → Nat := fun k => if k = 100 then b else L.getD k 0
theorem eG_cv {cA : Nat → ClassId} {ad : Nat → Nat} {q : Nat} (h : ∀ i, i < 11 → ad (9 + i) = q + 1 + i) : eG cA q = cvE ad cA (qA 4 11 (fun i => if i < 11 then some (9 + i) else none)) := by
  refine congrArg (fun f => (Sum.inl (cA 4, 11, .inr (.inr (.inr (.inr f)))) : va_E)) (funext fun i => ?_)
  by_cases hi : i < 11
  · simp [hi, h i hi]
  · simp [hi]
theorem eS_cv {cA : Nat → ClassId} {ad : Nat → Nat} {a b c d : Nat} (h0 : ad 24 = a) (h1 : ad 26 = b) (h2 : ad 28 = c) (h3 : ad 30 = d) : eS cA (wS a b c d) = cvE ad cA (qA 3 4 (fun i => if i < 4 then some (24 + 2 * i) else none)) := by
  refine congrArg (fun f => (Sum.inl (cA 3, 4, .inr (.inr (.inr (.inr f)))) : va_E)) (funext fun i => ?_)
  by_cases hi : i < 4
  · rcases (show i = 0 ∨ i = 1 ∨ i = 2 ∨ i = 3 by omega) with rfl | rfl | rfl | rfl <;> simp [wS, va_up, h0, h1, h2, h3]
  · have e0 : i ≠ 0 := by omega
    have e1 : i ≠ 1 := by omega
    have e2 : i ≠ 2 := by omega
    have e3 : i ≠ 3 := by omega
    simp [wS, va_up, hi, e0, e1, e2, e3]
