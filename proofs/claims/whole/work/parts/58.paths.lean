/-! rounds with each house once at most, in their order; a round is written from its end -/
def zmem (x : Nat) : List Nat → Bool
  | [] => false
  | a :: r => Nat.beq x a || zmem x r
def zfu (r : List Nat) : Nat → Nat → Nat
  | 0, k => k
  | m + 1, k => if zmem k r = true then zfu r m (k + 1) else k
def zbk (N : Nat) : List Nat → Option (List Nat)
  | [] => none
  | a :: r => if zfu r (N - (a + 1)) (a + 1) < N then some (zfu r (N - (a + 1)) (a + 1) :: r) else zbk N r
/-- the round that comes next -/
def znx (N : Nat) (r : List Nat) : Option (List Nat) := if zfu r N 0 < N then some (zfu r N 0 :: r) else zbk N r
def zchl (F : Nat → List (List Nat)) (r : List Nat) : Nat → List (List Nat)
  | 0 => []
  | k + 1 => zchl F r k ++ (if zmem k r = true then [] else F k)
/-- a round, and all that go on from it -/
def zpre (N : Nat) : Nat → List Nat → List (List Nat)
  | 0, r => [r]
  | f + 1, r => r :: zchl (fun x => zpre N f (x :: r)) r N
def zlEq : List Nat → List Nat → Bool
  | [], [] => true
  | a :: r, b :: s => Nat.beq a b && zlEq r s
  | _, _ => false
theorem zlEq_iff : ∀ {r s : List Nat}, zlEq r s = true → r = s
  | [], [], _ => rfl
  | a :: r, b :: s, e => by
    unfold zlEq at e
    rw [Bool.and_eq_true] at e
    rw [Nat.eq_of_beq_eq_true e.1, zlEq_iff e.2]
  | [], b :: s, e => by cases e
  | a :: r, [], e => by cases e
def znxB (N : Nat) (a b : List Nat) : Bool := match znx N a with
  | some c => zlEq c b
  | none => false
def zchk (N : Nat) : List Nat → List (List Nat) → Bool
  | a, [] => (znx N a).isNone
  | a, b :: t => znxB N a b && zchk N b t
def zok (N : Nat) : List Nat → Bool
  | [] => true
  | a :: r => Nat.blt a N && (!zmem a r && zok N r)
def zall (N : Nat) : List (List Nat) → Bool
  | [] => true
  | r :: t => zok N r && (Nat.ble r.length 6 && zall N t)
theorem zlist0 : ∀ N, N < 7 → zchk N [] (zchl (fun x => zpre N 5 (x :: [])) [] N) = true ∧ zall N (zchl (fun x => zpre N 5 (x :: [])) [] N) = true := by decide +kernel
