/-! THE FIRST HEAP -/
def L0 : List (Nat × Nat × Nat) := [(20, 6, 0), (23, 20, 2)]
theorem iL0 : isNs 0 11 2 L0 := ⟨⟨rfl, ⟨_, rfl, rfl⟩, Or.inl ⟨_, rfl, rfl, by decide⟩, rfl, by decide, rfl, by decide⟩, ⟨rfl, ⟨_, rfl, rfl⟩, Or.inr ⟨rfl, _, rfl⟩, rfl, by decide, rfl, by decide⟩, trivial⟩
def H00 : AH := hW AH0 11
def H01 : AH := hNs H00 0 L0
def H02 : AH := ap_r (hNw (hW H01 8) 3) 0 4 (some 3)
def H03 : AH := ap_r (hNs (hW H02 4) 19 L183) 0 5 (some 19)
def H04 : AH := ap_r (hNs (hW H03 4) 23 L183) 0 6 (some 23)
def H05 : AH := ap_r (hW H04 2) 0 7 (some 27)
def H06 : AH := ap_r (hNs (hW H05 6) 28 L197) 0 8 (some 28)
def H07 : AH := ap_r (hNs (hW H06 7) 31 L202) 0 9 (some 31)
def H08 : AH := ap_r (hNs (hW H07 0) 43 L150) 0 10 (some 43)
def H09 : AH := ap_r (h239 (hW H08 9) 45 31 27 43) 0 11 (some 45)
def H10 : AH := ap_r (hNs (hW H09 3) 46 L177) 0 12 (some 46)
def H11 : AH := ap_i H10 0 15 (-1)
def H12 : AH := hMd (hW H11 12) 49 51
def H13 : AH := ap_n H12 21 1 1
theorem n_13 : ah_n H13 = 70 ∧ ah_u H13 ≤ 100000 := by decide +kernel
theorem shp13 : SHP H13 := by
  unfold SHP SH0 SH19 SH23 SH27 SH28 SH31 SH43 SH45 SH46 SH49
  and_intros <;> decide +kernel
