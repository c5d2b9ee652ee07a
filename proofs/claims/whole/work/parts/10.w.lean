/-! conditions as lists of small orders (number of the order, value), with the two ways in which they are written, and with the kinds of what lies on the stack -/
abbrev qOp : Type := Nat × Nat
def qOa (C : List qOp) (k : Nat) : qOp := (C[k]?).getD (10, 0)
/-- the class's signs -/
def qSg (o : Nat) : Nat := match o with
  | 0 => 110 | 1 => 118 | 2 => 43 | 3 => 45 | 4 => 42 | 5 => 47 | 6 => 37 | 7 => 60 | 8 => 62 | 9 => 61 | 10 => 33 | 11 => 38 | _ => 124
def qWx (k : Nat) (p : qOp) : Int32 := nI (256 * (if 11 ≤ p.1 then p.2 - k - 1 else p.2) + qSg p.1)
def qWm (p : qOp) : Int32 := nI (1048576 * p.1 + p.2)
def qT1 (asks : Int32) (b k : Nat) (p : qOp) (T : Nat → List Bool) : Prop := p.1 ≤ 12 ∧
  (p.1 = 0 → p.2 < 1000000 ∧ (T k).length < 31 ∧ T (k + 1) = false :: T k) ∧
  (p.1 = 1 → p.2 < 8 ∧ (p.2 = 5 → ¬ asks = 0) ∧ (T k).length < 31 ∧ T (k + 1) = false :: T k) ∧
  (2 ≤ p.1 → p.1 ≤ 9 → p.2 = 0 ∧ ∃ x y s, T k = x :: y :: s ∧ T (k + 1) = decide (7 ≤ p.1) :: s) ∧
  (p.1 = 10 → p.2 = 0 ∧ ∃ s, T k = true :: s ∧ T (k + 1) = true :: s) ∧
  (11 ≤ p.1 → k < p.2 ∧ p.2 ≤ b ∧ ∃ s, T k = true :: s ∧ T (k + 1) = s ∧ T p.2 = true :: s)
def qTy (C : List qOp) (asks : Int32) (a b : Nat) : Prop := a = b ∨ ∃ T : Nat → List Bool, T a = [] ∧ T b = [true] ∧ ∀ k, a ≤ k → k < b → qT1 asks b k (qOa C k) T
