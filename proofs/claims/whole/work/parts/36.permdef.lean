/-! ===== the reference's way through all numberings ===== -/
def fiL (l : List Nat) : Nat → Option Nat
  | 0 => none
  | k + 1 => if l.getD k 0 ≤ l.getD (k + 1) 0 then some k else fiL l k
def fjL (l : List Nat) (x : Nat) : Nat → Nat
  | 0 => 0
  | k + 1 => if x ≤ l.getD (k + 1) 0 then k + 1 else fjL l x k
def swL (l : List Nat) (a b : Nat) : List Nat := (l.set a (l.getD b 0)).set b (l.getD a 0)
def rvL : Nat → Nat → Nat → List Nat → List Nat
  | 0, _, _, l => l
  | f + 1, a, b, l => if b ≤ a then l else rvL f (a + 1) (b - 1) (swL l a b)
def nxL (n : Nat) (l : List Nat) : Option (List Nat) := match fiL l (n - 1) with
  | none => none
  | some i => some (rvL n (i + 1) (n - 1) (swL l i (fjL l (l.getD i 0) (n - 1))))
def okp (n : Nat) (l : List Nat) : Bool := (l.length == n) && l.all (fun x => decide (x < n)) && decide l.Nodup
def chk (n : Nat) : List Nat → List (List Nat) → Bool
  | cur, [] => okp n cur && (nxL n cur).isNone
  | cur, c :: r => okp n cur && (decide (nxL n cur = some c) && chk n c r)
def pg : Nat → List Nat → List (List Nat)
  | 0, _ => [[]]
  | m + 1, av => av.flatMap (fun x => (pg m (av.erase x)).map (fun t => x :: t))
set_option maxRecDepth 100000 in
theorem chk_ok : ∀ n, n ≤ 7 → (pg n (List.range n) = List.range n :: (pg n (List.range n)).tail) ∧ chk n (List.range n) (pg n (List.range n)).tail = true := by
  have h : ∀ n, n < 8 → (pg n (List.range n) = List.range n :: (pg n (List.range n)).tail) ∧ chk n (List.range n) (pg n (List.range n)).tail = true := by decide +kernel
  exact fun n hn => h n (by omega)
