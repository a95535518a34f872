theorem K62 : cdo 62 0 = some (.iload 0) ∧ cdo 62 1 = some (.iload 1) ∧ cdo 62 2 = some (.if_icmp .lt 8) ∧ cdo 62 3 = some (.iload 0) ∧ cdo 62 4 = some (.iload 2) ∧ cdo 62 5 = some (.if_icmp .gt 8) ∧ cdo 62 6 = some (.iconst 1) ∧ cdo 62 7 = some (.goto 9) ∧ cdo 62 8 = some (.iconst 0) ∧ cdo 62 9 = some .freturn ∧ True := KA_of (cdL 62) cc_62 0 rfl
theorem K161 : cdo 161 0 = some (.iload 0) ∧ cdo 161 1 = some (.iconst 10) ∧ cdo 161 2 = some .ishr ∧ cdo 161 3 = some .ireturn ∧ True := KA_of (cdL 161) cc_161 0 rfl
theorem K155 : cdo 155 0 = some (.aload 0) ∧ cdo 155 1 = some (.getfield 102) ∧ cdo 155 2 = some (.aload 0) ∧ cdo 155 3 = some (.getfield 101) ∧ cdo 155 4 = some (.if_icmp .ge 11) ∧ cdo 155 5 = some (.aload 0) ∧ cdo 155 6 = some (.getfield 102) ∧ cdo 155 7 = some (.aload 0) ∧ cdo 155 8 = some (.getfield 100) ∧ cdo 155 9 = some .arraylength ∧ cdo 155 10 = some (.if_icmp .lt 13) ∧ cdo 155 11 = some (.iconst 1) ∧ cdo 155 12 = some (.goto 14) ∧ cdo 155 13 = some (.iconst 0) ∧ cdo 155 14 = some .freturn ∧ True := KA_of (cdL 155) cc_155 0 rfl
theorem K158 : cdo 158 0 = some (.iload 1) ∧ cdo 158 1 = some (.ifCond .lt 16) ∧ cdo 158 2 = some (.iload 1) ∧ cdo 158 3 = some (.aload 0) ∧ cdo 158 4 = some (.getfield 102) ∧ cdo 158 5 = some (.if_icmp .ge 16) ∧ cdo 158 6 = some (.iload 1) ∧ cdo 158 7 = some (.aload 0) ∧ cdo 158 8 = some (.getfield 100) ∧ cdo 158 9 = some .arraylength ∧ cdo 158 10 = some (.if_icmp .ge 16) ∧ cdo 158 11 = some (.aload 0) ∧ cdo 158 12 = some (.getfield 100) ∧ cdo 158 13 = some (.iload 1) ∧ cdo 158 14 = some .iaload ∧ cdo 158 15 = some (.goto 17) ∧ cdo 158 16 = some (.iconst 0) ∧ cdo 158 17 = some .ireturn ∧ True := KA_of (cdL 158) cc_158 0 rfl
def b2i (b : Bool) : Int32 := if b then 1 else 0
set_option maxRecDepth 10000 in
theorem t_numberIn {sc : (Nat → Int32) × Nat} {d : Nat} {h : AH} (x : Int32) (Q : Rs → AH → Prop) (hq : Q (.inl (some (.int (x >>> (10 &&& 31))))) h) : TC sc (d + 1) 161 [.int x] h Q := by
  refine TC_go (by decide) (wx_sound (S := []) 20 true _ _ _ _ ?_)
  simp only [wx, K161, stp]
  trace_state
  sorry
