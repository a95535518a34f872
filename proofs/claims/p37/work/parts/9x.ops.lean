/-! CALLS OF BOTH SIDES: ATOM, GROUND, GROUNDANEW, INSTANCE -/
theorem isT_9 {t : Int32} : isT (nI 0) t = (decide (nI 0 ≤ t) && decide (t ≤ nI 9)) := by
  unfold isT
  rw [show decide ((nI 0 : Int32) < nI 0) = false by decide, Bool.false_and, Bool.or_false]
  have : (t < nI 10) = (t ≤ nI 9) := propext (by
    rw [Int32.lt_iff_toInt_lt, Int32.le_iff_toInt_le, nI_toInt (by decide), nI_toInt (by decide)]
    omega)
  rw [decide_eq_decide.mpr (iff_of_eq this)]
theorem isT_0x {t : Int32} (h : isT (nI 0) t = true) : ∃ a : Nat, a ≤ 9 ∧ t = nI a := by
  rw [isT_9, Bool.and_eq_true, decide_eq_true_eq, decide_eq_true_eq, Int32.le_iff_toInt_le, Int32.le_iff_toInt_le, nI_toInt (by decide), nI_toInt (by decide)] at h
  obtain ⟨j, h1, h2⟩ := vp_in_of (x := t) (n := 10) (vp_in_iff.mpr (by omega)) (by decide)
  exact ⟨j, by omega, h2⟩
theorem trm_c {pl : Nat → Nat} {p : Nat} {a b : Int32} (h : trmB pl p (nI 0) a b = true) : ∃ x y : Nat, x ≤ 9 ∧ y ≤ 9 ∧ a = nI x ∧ b = nI y := by
  unfold trmB ftsB at h
  rw [Bool.and_eq_true] at h
  have key : ∀ (c : Bool) (t : Int32), (bif c then isT (nI 0) t else decide (t = nI 0)) = true → ∃ x, x ≤ 9 ∧ t = nI x := by
    intro c t h
    cases c
    · exact ⟨0, by omega, of_decide_eq_true h⟩
    · exact isT_0x h
  obtain ⟨x, h1, h2⟩ := key _ _ h.1
  obtain ⟨y, h3, h4⟩ := key _ _ h.2
  exact ⟨x, y, h1, h3, h2, h4⟩
theorem le0 {t : Int32} : (decide (nI 0 ≤ t) && decide (t ≤ nI 0)) = decide (t = nI 0) := by
  by_cases e : t = nI 0
  · rw [e]; decide
  · rw [decide_eq_false e]
    cases q : (decide (nI 0 ≤ t) && decide (t ≤ nI 0))
    · rfl
    · rw [Bool.and_eq_true, decide_eq_true_eq, decide_eq_true_eq] at q
      exact absurd (Int32.le_antisymm q.2 q.1) e
section OPS
variable {sc : (Nat → Int32) × Nat} {d : Nat} {h : AH} {Q : Rs → AH → Prop} {np : Nat} {pl : Nat → Nat}
end OPS


