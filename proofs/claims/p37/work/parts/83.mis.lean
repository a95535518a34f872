/-! PURE WORDS -/
def tld (c : Nat → Nat) : Nat := 1000 * c 0 + 100 * c 1 + 10 * c 2 + c 3
def cmA (R : RW) (c : Nat → Nat) : Prop := ∀ k, k < R_n R 3 → cmv (R_p R 3 k) (tv (R_a R 3 k) 0 c) (tv (R_b R 3 k) 0 c) = true
theorem b_or (b : Bool) : (b = false ∨ b = true) = True := by cases b <;> simp
