/-! MORE PURE WORDS -/
theorem tot_s (P : PG) (i s a : Nat) : tot P i s (a + 1) = if s.testBit a = true then tot P i s a + P_wt P i a else tot P i s a := rfl
theorem n_m1e {x : Nat} (hx : x < 2147483648) : (nI x = -1) = False := eq_false (n_m1 hx)
theorem tm_m5 {x : Nat} (hx : VZ x) : (tm x = -5) = (x = 0) := propext ⟨fun e => by
    have h := congrArg Int32.toInt e
    rw [tm_i (by have := hx.lt; omega)] at h
    have h : (x : Int) - 5 = -5 := h
    omega, fun e => by rw [e]; rfl⟩
def hzB (R : RW) (k : Nat) : Bool := decide (R_a R 4 k = 0) || decide (R_b R 4 k = 0)
theorem znm_e (R : RW) (k : Nat) : znm R k = bif hzB R k then 10 else 1 := by
  unfold znm hzB
  by_cases a : R_a R 4 k = 0 <;> by_cases b : R_b R 4 k = 0 <;> simp [a, b]
theorem ml_i (x : Nat) : nI x - nI (x / 10 * 10) = nI (x % 10) := by
  rw [pk_sub (by omega)]; congr 1; omega
theorem isRf_s : isRf (Value.retAddr 1) = true := rfl
theorem CA.fr {h h' : AH} {c : Nat → Nat} {W : Nat → Nat → Prop} {a : Nat} (m : CA h a c) (f : FR h h' W) (w : ∀ k, ¬ W a k) : CA h' a c := by
  have e : ∀ k, ah_i h' a k = ah_i h a k := fun k => f.ci (w k)
  unfold CA at *
  simp only [e, f.k.1, f.k.2.1]
  exact m
