/-! CALLS OF BOTH SIDES: 12 -/
theorem idx_mid {A B : List Nat} {x : Nat} (nd : (A ++ [x] ++ B).Nodup) : idx (A ++ [x] ++ B) x = A.length + 1 := by
  have len : A.length < (A ++ [x] ++ B).length := by
    rw [List.length_append, List.length_append, List.length_singleton]; omega
  have lx : lat (A ++ [x] ++ B) A.length = x := by
    rw [lat_app (by rw [List.length_append, List.length_singleton]; omega), lat_new]
  have mem : x ∈ A ++ [x] ++ B := by
    have := lat_mem len
    rw [lx] at this
    exact this
  obtain ⟨h1, h2, h3⟩ := idx_i mem
  rcases Nat.lt_trichotomy (idx (A ++ [x] ++ B) x - 1) A.length with q | q | q
  · exact absurd (h3.trans lx.symm) (lat_inj nd q len)
  · omega
  · exact absurd (lx.trans h3.symm) (lat_inj nd q (by omega))
section OPS
variable {sc : (Nat → Int32) × Nat} {h h' : AH} {np : Nat} {pl : Nat → Nat} {R : RW} {m : Nat} {Ro : Nat → RW} {A I : List Nat} {X T F pc : Nat} {pa pb : Nat → Nat} {r : Nat}
theorem OU.fv {S V : Nat → Nat → Prop} (o : OU h) (f : FV h h' S V) : OU h' := ⟨by rw [f.2.2.1]; exact o.1, by rw [f.2.2.2.1]; exact o.2⟩
end OPS

