/-! the orders, by number and by steps -/
def ff (u : Nat) : Nat → Nat → Nat → Nat
  | 0, _, f => f
  | n + 1, p, f => if u / 2 ^ f % 2 = 1 then ff u n p (f + 1) else if p = 0 then f else ff u n (p - 1) (f + 1)
def ffOk (u N : Nat) : Nat → Nat → Nat → Bool
  | 0, _, _ => false
  | n + 1, p, f => decide (f < N) && (if u / 2 ^ f % 2 = 1 then ffOk u N n p (f + 1) else if p = 0 then true else ffOk u N n (p - 1) (f + 1))
def nxO (N i o : Nat) : Nat := if N - 1 - i ≤ 1 then 1 else o / (N - 1 - i)
def foR (N : Nat) : Nat → Nat → Nat → Nat → Nat → List Nat
  | 0, _, _, _, _ => []
  | d + 1, i, k, u, o => ff u 6 (k / o) 0 :: foR N d (i + 1) (k % o) (u ||| 2 ^ ff u 6 (k / o) 0) (nxO N i o)
def foOk (N : Nat) : Nat → Nat → Nat → Nat → Nat → Bool
  | 0, _, _, _, _ => true
  | d + 1, i, k, u, o => decide (1 ≤ o) && decide (o ≤ 1000) && decide (u < 32) && ffOk u N 6 (k / o) 0 && foOk N d (i + 1) (k % o) (u ||| 2 ^ ff u 6 (k / o) 0) (nxO N i o)
def fcR : Nat → Nat → Nat → Nat
  | 0, _, o => o
  | d + 1, i, o => fcR d (i + 1) (o * i)
def fo (N k : Nat) : List Nat := foR N N 0 k 0 (fcR (N - 2) 2 1)
def pmF (N k j : Nat) : Nat := (fo N k).getD j 0
def fac (N : Nat) : Nat := fcR (N - 1) 2 1
def find1 (A : Nat → Nat) : Nat → Option Nat
  | 0 => none
  | a + 1 => if A (a + 1) < A a then find1 A a else some a
def find2 (A : Nat → Nat) (p : Nat) : Nat → Nat
  | 0 => 0
  | o + 1 => if o + 1 ≤ p then o + 1 else if A p ≤ A (o + 1) then o + 1 else find2 A p o
def swp (A : Nat → Nat) (i j : Nat) : Nat → Nat := fun x => if x = j then A i else if x = i then A j else A x
def revF : Nat → Nat → Nat → (Nat → Nat) → Nat → Nat
  | 0, _, _, A => A
  | n + 1, a, b, A => if b ≤ a then A else revF n (a + 1) (b - 1) (swp A a b)
def stepA (N p : Nat) (A : Nat → Nat) : Nat → Nat := revF 6 (p + 1) (N - 1) (swp A p (find2 A p (N - 1)))
/-- all that is finite about it -/
def chk (N k : Nat) : Bool :=
  foOk N N 0 k 0 (fcR (N - 2) 2 1) && decide ((fo N k).length = N) && (List.range N).all (fun j => decide (pmF N k j < N)) && (List.range N).all (fun i => (List.range N).all fun j => decide (i = j ∨ pmF N k i ≠ pmF N k j)) &&
  (match find1 (pmF N k) (N - 1) with
    | none => decide (k + 1 = fac N)
    | some p => decide (k + 1 < fac N) && decide (p + 1 < N) && (List.range p).all (fun j => decide (pmF N (k + 1) j = pmF N k j)) && (List.range N).all (fun j => decide (stepA N p (pmF N k) j = pmF N (k + 1) j)))
theorem chk_all : ∀ N, N < 6 → ∀ k, k < 120 → (1 ≤ N ∧ k < fac N → chk N k = true) := by decide +kernel
theorem fac_le : ∀ N, N < 6 → fac N ≤ 120 ∧ 1 ≤ fac N := by decide +kernel
theorem pm0 : ∀ N, N < 6 → ∀ j, j < N → pmF N 0 j = j := by decide +kernel
theorem bit_and : ∀ u, u < 32 → ∀ f, f < 6 → ((nI u >>> (nI f &&& 31)) &&& (1 : Int32)) = nI (u / 2 ^ f % 2) := by decide +kernel
theorem bit_or : ∀ u, u < 32 → ∀ f, f < 5 → (nI u ||| ((1 : Int32) <<< (nI f &&& 31))) = nI (u ||| 2 ^ f) := by decide +kernel
