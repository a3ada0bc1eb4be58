/-! ===== all orders, the first ones first ===== -/
def swp (os : List Nat) (i j : Nat) : List Nat := (os.set i (os.getD j 0)).set j (os.getD i 0)
/-- from place m on downward: the last place whose next one is larger -/
def fI (os : List Nat) : Nat → Option Nat
  | 0 => none
  | m + 1 => if os.getD (m + 1) 0 < os.getD m 0 then fI os m else some m
/-- from place m on downward: the last one that isn't below x -/
def fJ (os : List Nat) (x : Nat) : Nat → Nat
  | 0 => 0
  | m + 1 => if os.getD (m + 1) 0 < x then fJ os x m else m + 1
/-- turned round between a and a + d -/
def rvK : Nat → Nat → Nat → List Nat → List Nat
  | 0, _, _, os => os
  | f + 1, a, c, os => if a < c then rvK f (a + 1) (c - 1) (swp os a c) else os
def nxt (os : List Nat) : Option (List Nat) := match fI os (os.length - 1) with
  | none => none
  | some i => some (rvK 8 (i + 1) (os.length - 1) (swp os i (fJ os (os.getD i 0) (os.length - 1))))
/-- all orders of some houses, by the first, then the second .. -/
def pmK : Nat → List Nat → List (List Nat)
  | 0, _ => [[]]
  | m + 1, av => av.flatMap (fun h => (pmK m (av.erase h)).map (fun r => h :: r))
def pm (n : Nat) : List (List Nat) := pmK n (List.range n)
def chk : List (List Nat) → Bool
  | [] => false
  | [os] => decide (nxt os = none)
  | os :: o2 :: r => decide (nxt os = some o2) && chk (o2 :: r)
theorem pm_chk5 : ∀ n, n < 6 → chk (pm n) = true := by decide +kernel
theorem pm_chk6 : chk (pm 6) = true := by decide +kernel
