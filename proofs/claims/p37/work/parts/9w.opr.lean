/-! CALLS OF BOTH SIDES: 19 TO 33 -/
section OPS
variable {sc : (Nat → Int32) × Nat} {h : AH} {P : PG} {T F : Nat}
theorem rkr_u {pc : Nat} {pa pb : Nat → Nat} {s : Nat} {v v' : Int32} (a : rkr P T F pc pa pb s v) (b : rkr P T F pc pa pb s v') : v = v' := by
  rcases a with ⟨a1, a2⟩ | ⟨a1, a2, a3⟩ | ⟨a1, a2, a3⟩ <;> rcases b with ⟨b1, b2⟩ | ⟨b1, b2, b3⟩ | ⟨b1, b2, b3⟩
  · rw [a2, b2]
  · exact absurd b1 a1
  · exact absurd b1 a1
  · exact absurd a1 b1
  · rw [a3, b3]
  · exact absurd a2 b2
  · exact absurd a1 b1
  · exact absurd b2 a2
  · rw [a3, b3]
theorem barr_u {a : Nat} {v v' : Int32} (x : barr P T F a v) (y : barr P T F a v') : v = v' := by
  rcases x with ⟨a1, a2⟩ | ⟨a1, a2, a3⟩ | ⟨a1, i, a2, a3, a4⟩ <;> rcases y with ⟨b1, b2⟩ | ⟨b1, b2, b3⟩ | ⟨b1, j, b2, b3, b4⟩
  · rw [a2, b2]
  · exact absurd a1 b1
  · exact absurd a1 b1
  · exact absurd b1 a1
  · rw [a3, b3]
  · rw [a2, Nat.zero_testBit] at b3; exact Bool.noConfusion b3
  · exact absurd b1 a1
  · rw [b2, Nat.zero_testBit] at a3; exact Bool.noConfusion a3
  · rcases Nat.lt_trichotomy i j with q | q | q
    · have := b4 i q; rw [this] at a3; exact Bool.noConfusion a3
    · rw [a2, b2, q]
    · have := a4 j q; rw [this] at b3; exact Bool.noConfusion b3
theorem cmt_sub {x b : Nat} (hb : b &&& x = b) (c : cmt P T F x) : cmt P T F b := by
  obtain ⟨s, h1, h2⟩ := c
  refine ⟨s, h1, ?_⟩
  have hs : ∀ i, b.testBit i = true → x.testBit i = true := fun i q => by
    have := congrArg (fun z => z.testBit i) hb
    simp only [Nat.testBit_and, q, Bool.true_and] at this
    exact this
  unfold mee at *
  rw [Bool.and_eq_true, decide_eq_true_eq, decide_eq_true_eq] at *
  obtain ⟨m1, m2⟩ := h2
  have e1 : ∀ i, (x % 4096).testBit i = true → s.testBit i = true := fun i q => by
    have := congrArg (fun z => z.testBit i) m1
    simp only [dif_tb, q, Bool.true_and, Nat.zero_testBit] at this
    simpa using this
  have e2 : ∀ i, (x / 4096).testBit i = true → s.testBit i = false := fun i q => by
    have := congrArg (fun z => z.testBit i) m2
    simp only [Nat.testBit_and, q, Bool.true_and, Nat.zero_testBit] at this
    exact this
  have l1 : ∀ i, (b % 4096).testBit i = true → (x % 4096).testBit i = true := fun i q => by
    rw [show (4096 : Nat) = 2 ^ 12 from rfl, Nat.testBit_mod_two_pow, Bool.and_eq_true] at q ⊢
    exact ⟨q.1, hs i q.2⟩
  have l2 : ∀ i, (b / 4096).testBit i = true → (x / 4096).testBit i = true := fun i q => by
    rw [show (4096 : Nat) = 2 ^ 12 from rfl, Nat.testBit_div_two_pow] at q ⊢
    exact hs _ q
  constructor
  · apply Nat.eq_of_testBit_eq
    intro i
    rw [dif_tb, Nat.zero_testBit]
    cases q : (b % 4096).testBit i
    · rw [Bool.false_and]
    · rw [e1 i (l1 i q)]; rfl
  · apply Nat.eq_of_testBit_eq
    intro i
    rw [Nat.testBit_and, Nat.zero_testBit]
    cases q : (b / 4096).testBit i
    · rw [Bool.false_and]
    · rw [e2 i (l2 i q)]; rfl
theorem lcf_u {x b b' : Nat} (a : lcf P T F x b) (a' : lcf P T F x b') : b = b' := by
  have h1 := a.2.2 b' a'.1 a'.2.1
  have h2 := a'.2.2 b a.1 a.2.1
  unfold ils at h1 h2
  rw [decide_eq_false_iff_not] at h1 h2
  omega
def cfG (P : PG) (T F x : Nat) (v : Int32) : Prop := v = -1 ∧ cmt P T F x ∨ ∃ z : Nat, v = nI z ∧ lcf P T F x z
theorem cfG_u {x : Nat} {v v' : Int32} (a : cfG P T F x v) (b : cfG P T F x v') : v = v' := by
  rcases a with ⟨rfl, a⟩ | ⟨z, rfl, a⟩ <;> rcases b with ⟨rfl, b⟩ | ⟨y, rfl, b⟩
  · rfl
  · exact absurd (cmt_sub b.1 a) b.2.1
  · exact absurd (cmt_sub a.1 b) a.2.1
  · rw [lcf_u a b]
end OPS

