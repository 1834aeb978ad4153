/-! mathematics of the orders: the lists of places, least first -/
/-- from which place on (downwards) the row goes up: the last k with r k < r (k + 1), as k + 1; 0: none -/
def nxT (r : Nat → Nat) : Nat → Nat
  | 0 => 0
  | k + 1 => if r k ≤ r (k + 1) then k + 1 else nxT r k
/-- the last place above t whose number is greater -/
def nxO (r : Nat → Nat) (t : Nat) : Nat → Nat
  | 0 => 0
  | k + 1 => if t < k + 1 ∧ r (k + 1) < r t then nxO r t k else k + 1
def sw (r : Nat → Nat) (a b : Nat) : Nat → Nat := fun k => if k = b then r a else if k = a then r b else r k
def rvs : Nat → (Nat → Nat) → Nat → Nat → (Nat → Nat)
  | 0, r, _, _ => r
  | f + 1, r, a, b => if a < b then rvs f (sw r a b) (a + 1) (b - 1) else r
/-- the next order of n numbers, if there is one -/
def nxt (n : Nat) (r : Nat → Nat) : Option (Nat → Nat) :=
  match nxT r (n - 1) with
  | 0 => none
  | t + 1 => some (rvs 5 (sw r t (nxO r t (n - 1))) (t + 1) (n - 1))
/-- lists instead of maps, to be reckoned -/
def lsN (n : Nat) (r : Nat → Nat) : List Nat := (List.range n).map r
def ofL (x : List Nat) : Nat → Nat := fun k => x.getD k 0
def nxtL (n : Nat) (x : List Nat) : Option (List Nat) := (nxt n (ofL x)).map (lsN n)
def seqL (n : Nat) : Nat → List Nat → List (List Nat)
  | 0, _ => []
  | f + 1, x => x :: match nxtL n x with
    | none => []
    | some y => seqL n f y
/-- the digits of a number, the greatest first -/
def dgs (n : Nat) : Nat → Nat → List Nat
  | 0, _ => []
  | k + 1, x => (x / n ^ k) :: dgs n k (x % n ^ k)
def isPm (n : Nat) (x : List Nat) : Bool := (x.foldl (fun a d => a ||| 1 <<< d) 0) == 2 ^ n - 1
def ordL (n : Nat) : List (List Nat) := ((List.range (n ^ n)).map (dgs n n)).filter (isPm n)
set_option maxRecDepth 100000 in
theorem ord_eq : ∀ n, n < 6 → seqL n 120 (List.range n) = ordL n := by decide +kernel
set_option maxRecDepth 100000 in
theorem ord_ok : ∀ n, n < 6 → ∀ x ∈ ordL n, x.length = n ∧ ∀ k, k < n → x.getD k 0 < n := by decide +kernel
