/-! the number of bits, on numbers -/
/-- the same on numbers -/
def pcA (x : Nat) : Nat := Nat.sub x (Nat.land (Nat.shiftRight x 1) 1431655765)
def pcB (a : Nat) : Nat := Nat.add (Nat.land a 858993459) (Nat.land (Nat.shiftRight a 2) 858993459)
def pcC (b : Nat) : Nat := Nat.land (Nat.add b (Nat.shiftRight b 4)) 252645135
def pcN (x : Nat) : Nat :=
  let c := pcC (pcB (pcA x))
  let d := Nat.add c (Nat.shiftRight c 8)
  Nat.land (Nat.add d (Nat.shiftRight d 16)) 63
def pop : Nat → Nat → Nat
  | 0, _ => 0
  | n + 1, m => Nat.add (pop n m) (Nat.mod (Nat.shiftRight m n) 2)
theorem pc_16a : ∀ a : Nat, a < 256 → ∀ b : Nat, b < 256 → pcN (a * 256 + b) = pop 16 (a * 256 + b) := by decide +kernel
