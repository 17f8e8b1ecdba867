/-! the number of bits, on numbers -/
/-- the same on numbers -/
def pcA (x : Nat) : Nat := Nat.sub x (Nat.land (Nat.shiftRight x 1) 1431655765)
def pcB (a : Nat) : Nat := Nat.add (Nat.land a 858993459) (Nat.land (Nat.shiftRight a 2) 858993459)
def pcC (b : Nat) : Nat := Nat.land (Nat.add b (Nat.shiftRight b 4)) 252645135
def pcN (x : Nat) : Nat :=
  let c := pcC (pcB (pcA x))
  let d := Nat.add c (Nat.shiftRight c 8)
  Nat.land (Nat.add d (Nat.shiftRight d 16)) 63
def pop : Nat → Nat → Nat
  | 0, _ => 0
  | n + 1, m => Nat.add (pop n m) (Nat.mod (Nat.shiftRight m n) 2)
def pcR (m : Nat) : Bool := Nat.beq (pcN m) (Nat.add (pcN (Nat.div m 2)) (Nat.mod m 2))
theorem pc_r0 : ∀ a : Nat, a < 16 → ∀ b : Nat, b < 256 → pcR (Nat.add (Nat.mul (Nat.add 0 a) 256) b) = true := by decide +kernel
theorem pc_r1 : ∀ a : Nat, a < 16 → ∀ b : Nat, b < 256 → pcR (Nat.add (Nat.mul (Nat.add 16 a) 256) b) = true := by decide +kernel
theorem pc_r2 : ∀ a : Nat, a < 16 → ∀ b : Nat, b < 256 → pcR (Nat.add (Nat.mul (Nat.add 32 a) 256) b) = true := by decide +kernel
theorem pc_r3 : ∀ a : Nat, a < 16 → ∀ b : Nat, b < 256 → pcR (Nat.add (Nat.mul (Nat.add 48 a) 256) b) = true := by decide +kernel
theorem pc_r4 : ∀ a : Nat, a < 16 → ∀ b : Nat, b < 256 → pcR (Nat.add (Nat.mul (Nat.add 64 a) 256) b) = true := by decide +kernel
theorem pc_r5 : ∀ a : Nat, a < 16 → ∀ b : Nat, b < 256 → pcR (Nat.add (Nat.mul (Nat.add 80 a) 256) b) = true := by decide +kernel
theorem pc_r6 : ∀ a : Nat, a < 16 → ∀ b : Nat, b < 256 → pcR (Nat.add (Nat.mul (Nat.add 96 a) 256) b) = true := by decide +kernel
theorem pc_r7 : ∀ a : Nat, a < 16 → ∀ b : Nat, b < 256 → pcR (Nat.add (Nat.mul (Nat.add 112 a) 256) b) = true := by decide +kernel
theorem pc_r8 : ∀ a : Nat, a < 16 → ∀ b : Nat, b < 256 → pcR (Nat.add (Nat.mul (Nat.add 128 a) 256) b) = true := by decide +kernel
theorem pc_r9 : ∀ a : Nat, a < 16 → ∀ b : Nat, b < 256 → pcR (Nat.add (Nat.mul (Nat.add 144 a) 256) b) = true := by decide +kernel
theorem pc_r10 : ∀ a : Nat, a < 16 → ∀ b : Nat, b < 256 → pcR (Nat.add (Nat.mul (Nat.add 160 a) 256) b) = true := by decide +kernel
theorem pc_r11 : ∀ a : Nat, a < 16 → ∀ b : Nat, b < 256 → pcR (Nat.add (Nat.mul (Nat.add 176 a) 256) b) = true := by decide +kernel
theorem pc_r12 : ∀ a : Nat, a < 16 → ∀ b : Nat, b < 256 → pcR (Nat.add (Nat.mul (Nat.add 192 a) 256) b) = true := by decide +kernel
theorem pc_r13 : ∀ a : Nat, a < 16 → ∀ b : Nat, b < 256 → pcR (Nat.add (Nat.mul (Nat.add 208 a) 256) b) = true := by decide +kernel
theorem pc_r14 : ∀ a : Nat, a < 16 → ∀ b : Nat, b < 256 → pcR (Nat.add (Nat.mul (Nat.add 224 a) 256) b) = true := by decide +kernel
theorem pc_r15 : ∀ a : Nat, a < 16 → ∀ b : Nat, b < 256 → pcR (Nat.add (Nat.mul (Nat.add 240 a) 256) b) = true := by decide +kernel
theorem pc_rr {m : Nat} (h : m < 65536) : pcN m = pcN (m / 2) + m % 2 := by
  have k : ∀ a : Nat, a < 256 → ∀ b : Nat, b < 256 → pcR (a * 256 + b) = true := by
    intro a ha b hb
    have c : (∃ d, d < 16 ∧ a = 0 + d) ∨ (∃ d, d < 16 ∧ a = 16 + d) ∨ (∃ d, d < 16 ∧ a = 32 + d) ∨ (∃ d, d < 16 ∧ a = 48 + d) ∨ (∃ d, d < 16 ∧ a = 64 + d) ∨ (∃ d, d < 16 ∧ a = 80 + d) ∨ (∃ d, d < 16 ∧ a = 96 + d) ∨ (∃ d, d < 16 ∧ a = 112 + d) ∨ (∃ d, d < 16 ∧ a = 128 + d) ∨ (∃ d, d < 16 ∧ a = 144 + d) ∨ (∃ d, d < 16 ∧ a = 160 + d) ∨ (∃ d, d < 16 ∧ a = 176 + d) ∨ (∃ d, d < 16 ∧ a = 192 + d) ∨ (∃ d, d < 16 ∧ a = 208 + d) ∨ (∃ d, d < 16 ∧ a = 224 + d) ∨ (∃ d, d < 16 ∧ a = 240 + d) := by
      have e : a = 16 * (a / 16) + a % 16 := by omega
      have l : a % 16 < 16 := by omega
      have q : a / 16 < 16 := by omega
      generalize a / 16 = x at e q
      generalize a % 16 = y at e l
      have q2 : x = 0 ∨ x = 1 ∨ x = 2 ∨ x = 3 ∨ x = 4 ∨ x = 5 ∨ x = 6 ∨ x = 7 ∨ x = 8 ∨ x = 9 ∨ x = 10 ∨ x = 11 ∨ x = 12 ∨ x = 13 ∨ x = 14 ∨ x = 15 := by omega
      rcases q2 with rfl | rfl | rfl | rfl | rfl | rfl | rfl | rfl | rfl | rfl | rfl | rfl | rfl | rfl | rfl | rfl
      · exact Or.inl ⟨y, l, by omega⟩
      · exact Or.inr (Or.inl ⟨y, l, by omega⟩)
      · exact Or.inr (Or.inr (Or.inl ⟨y, l, by omega⟩))
      · exact Or.inr (Or.inr (Or.inr (Or.inl ⟨y, l, by omega⟩)))
      · exact Or.inr (Or.inr (Or.inr (Or.inr (Or.inl ⟨y, l, by omega⟩))))
      · exact Or.inr (Or.inr (Or.inr (Or.inr (Or.inr (Or.inl ⟨y, l, by omega⟩)))))
      · exact Or.inr (Or.inr (Or.inr (Or.inr (Or.inr (Or.inr (Or.inl ⟨y, l, by omega⟩))))))
      · exact Or.inr (Or.inr (Or.inr (Or.inr (Or.inr (Or.inr (Or.inr (Or.inl ⟨y, l, by omega⟩)))))))
      · exact Or.inr (Or.inr (Or.inr (Or.inr (Or.inr (Or.inr (Or.inr (Or.inr (Or.inl ⟨y, l, by omega⟩))))))))
      · exact Or.inr (Or.inr (Or.inr (Or.inr (Or.inr (Or.inr (Or.inr (Or.inr (Or.inr (Or.inl ⟨y, l, by omega⟩)))))))))
      · exact Or.inr (Or.inr (Or.inr (Or.inr (Or.inr (Or.inr (Or.inr (Or.inr (Or.inr (Or.inr (Or.inl ⟨y, l, by omega⟩))))))))))
      · exact Or.inr (Or.inr (Or.inr (Or.inr (Or.inr (Or.inr (Or.inr (Or.inr (Or.inr (Or.inr (Or.inr (Or.inl ⟨y, l, by omega⟩)))))))))))
      · exact Or.inr (Or.inr (Or.inr (Or.inr (Or.inr (Or.inr (Or.inr (Or.inr (Or.inr (Or.inr (Or.inr (Or.inr (Or.inl ⟨y, l, by omega⟩))))))))))))
      · exact Or.inr (Or.inr (Or.inr (Or.inr (Or.inr (Or.inr (Or.inr (Or.inr (Or.inr (Or.inr (Or.inr (Or.inr (Or.inr (Or.inl ⟨y, l, by omega⟩)))))))))))))
      · exact Or.inr (Or.inr (Or.inr (Or.inr (Or.inr (Or.inr (Or.inr (Or.inr (Or.inr (Or.inr (Or.inr (Or.inr (Or.inr (Or.inr (Or.inl ⟨y, l, by omega⟩))))))))))))))
      · exact Or.inr (Or.inr (Or.inr (Or.inr (Or.inr (Or.inr (Or.inr (Or.inr (Or.inr (Or.inr (Or.inr (Or.inr (Or.inr (Or.inr (Or.inr (⟨y, l, by omega⟩)))))))))))))))
    rcases c with ⟨d, hd, rfl⟩ | ⟨d, hd, rfl⟩ | ⟨d, hd, rfl⟩ | ⟨d, hd, rfl⟩ | ⟨d, hd, rfl⟩ | ⟨d, hd, rfl⟩ | ⟨d, hd, rfl⟩ | ⟨d, hd, rfl⟩ | ⟨d, hd, rfl⟩ | ⟨d, hd, rfl⟩ | ⟨d, hd, rfl⟩ | ⟨d, hd, rfl⟩ | ⟨d, hd, rfl⟩ | ⟨d, hd, rfl⟩ | ⟨d, hd, rfl⟩ | ⟨d, hd, rfl⟩
    · exact pc_r0 d hd b hb
    · exact pc_r1 d hd b hb
    · exact pc_r2 d hd b hb
    · exact pc_r3 d hd b hb
    · exact pc_r4 d hd b hb
    · exact pc_r5 d hd b hb
    · exact pc_r6 d hd b hb
    · exact pc_r7 d hd b hb
    · exact pc_r8 d hd b hb
    · exact pc_r9 d hd b hb
    · exact pc_r10 d hd b hb
    · exact pc_r11 d hd b hb
    · exact pc_r12 d hd b hb
    · exact pc_r13 d hd b hb
    · exact pc_r14 d hd b hb
    · exact pc_r15 d hd b hb
  have := k (m / 256) (by omega) (m % 256) (by omega)
  rw [show m / 256 * 256 + m % 256 = m by omega] at this
  exact Nat.eq_of_beq_eq_true this
theorem pop_r (m : Nat) : ∀ n : Nat, pop (n + 1) m = pop n (m / 2) + m % 2
  | 0 => by
    show 0 + (m >>> 0) % 2 = 0 + m % 2
    rfl
  | n + 1 => by
    show pop (n + 1) m + (m >>> (n + 1)) % 2 = pop n (m / 2) + ((m / 2) >>> n) % 2 + m % 2
    rw [pop_r m n, Nat.shiftRight_eq_div_pow, Nat.shiftRight_eq_div_pow, Nat.div_div_eq_div_mul, show 2 ^ (n + 1) = 2 * 2 ^ n by rw [Nat.pow_succ, Nat.mul_comm]]
    omega
theorem pc_pop : ∀ (n m : Nat), n ≤ 16 → m < 2 ^ n → pcN m = pop n m
  | 0, m, _, h => by
    have e : m = 0 := by
      rw [Nat.pow_zero] at h
      omega
    subst e
    decide
  | n + 1, m, hn, h => by
    have b : 2 ^ (n + 1) ≤ 65536 := Nat.le_trans (Nat.pow_le_pow_right (n := 2) (by decide) hn) (by decide)
    rw [Nat.pow_succ] at h b
    rw [pc_rr (by omega), pop_r, pc_pop n (m / 2) (by omega) (by omega)]
theorem pc_16b {m : Nat} (h : m < 65536) : pcN m = pop 16 m := pc_pop 16 m (Nat.le_refl 16) h
