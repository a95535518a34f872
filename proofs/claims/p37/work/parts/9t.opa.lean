/-! CALLS OF BOTH SIDES: HOW THEY COME TOGETHER -/
section OPS
variable {sc : (Nat → Int32) × Nat} {h : AH} {w mm c E k a b e : Nat} {wa ma ca : List Value}
theorem push_fr {r l p x y : Nat} {R : RW} (hl : l < 5) : FR h (pushC h r R l p x y) (Sd r) := by
  have el : eO l + 1 < 16 := by
    have : l = 0 ∨ l = 1 ∨ l = 2 ∨ l = 3 ∨ l = 4 := by omega
    rcases this with rfl | rfl | rfl | rfl | rfl <;> decide
  exact ((FR.refl _ _).i ⟨by omega, by omega⟩).i ⟨by omega, by omega⟩
section MIDS
variable {np : Nat} {pl : Nat → Nat} {R : RW} {m : Nat} {Ro : Nat → RW} {A I : List Nat} {X T F pc : Nat} {pa pb : Nat → Nat} {r : Nat}
theorem l69 {h1 : AH} {v : Int64} : ah_l (ap_l h1 69 0 v) 69 0 = v := by rw [al_l, if_pos ⟨rfl, rfl⟩]
theorem f69 {h1 : AH} {v : Int64} : FR h1 (ap_l h1 69 0 v) S69 := (FR.refl _ _).l rfl
end MIDS
end OPS

