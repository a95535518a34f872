/-! THE FIRST HEAP -/
def L0 : List (Nat × Nat × Nat) := [(20, 6, 0), (23, 20, 2)]
theorem iL0 : isNs 0 11 2 L0 := ⟨⟨rfl, ⟨_, rfl, rfl⟩, Or.inl ⟨_, rfl, rfl, by decide⟩, rfl, by decide, rfl, by decide⟩, ⟨rfl, ⟨_, rfl, rfl⟩, Or.inr ⟨rfl, _, rfl⟩, rfl, by decide, rfl, by decide⟩, trivial⟩
def H00 : AH := hW AH0 11
def H01 : AH := hNs H00 0 L0
def H02 : AH := ap_r (hNw (hW H01 8) 3) 0 4 (some 3)
def H03 : AH := ap_r (hNs (hW H02 4) 19 L183) 0 5 (some 19)
def H04 : AH := ap_r (hNs (hW H03 4) 23 L183) 0 6 (some 23)
def H05 : AH := ap_r (hW H04 2) 0 7 (some 27)
def H06 : AH := ap_r (hNs (hW H05 6) 28 L197) 0 8 (some 28)
def H07 : AH := ap_r (hNs (hW H06 7) 31 L202) 0 9 (some 31)
def H08 : AH := ap_r (hNs (hW H07 0) 43 L150) 0 10 (some 43)
def H09 : AH := ap_r (h239 (hW H08 9) 45 31 27 43) 0 11 (some 45)
def H10 : AH := ap_r (hNs (hW H09 3) 46 L177) 0 12 (some 46)
def H11 : AH := ap_i H10 0 15 (-1)
def H12 : AH := hMd (hW H11 12) 49 51
def H13 : AH := ap_n H12 21 1 1
theorem n_13 : ah_n H13 = 70 ∧ ah_u H11 ≤ 100000 := by decide +kernel
theorem shp13 : SHP H13 := by
  unfold SHP SH0 SH19 SH23 SH27 SH28 SH31 SH43 SH45 SH46 SH49
  and_intros <;> decide +kernel

/-! THE FIRST HEAP IS RIGHT -/
theorem piv0 : PIV 0 E0 0 (fun _ => E0) [] [] 0 0 0 := by
  refine ⟨E0_ok, by decide, ⟨by decide, fun n z => absurd z (Nat.not_lt_zero _)⟩, ⟨?_, ?_, ?_, ?_⟩, fun n c z => absurd z (Nat.not_lt_zero _), by decide, by decide, by decide⟩
  · exact ⟨List.nodup_nil, List.nodup_nil, by decide, by decide, fun x z => absurd z List.not_mem_nil, fun x z => absurd z List.not_mem_nil⟩
  · exact fun X _ _ x z => absurd z List.not_mem_nil
  · exact fun t z => absurd z List.not_mem_nil
  · exact fun _ n c z => absurd z (Nat.not_lt_zero _)
theorem rsh0 : RSh H13 3 := by
  unfold RSh
  refine ⟨?_, ?_, ?_, ?_, ?_, ?_, ?_, ?_, ?_, ?_, ?_, ?_, ?_, ?_, ?_, ?_, ?_, ?_, ?_, fun l hl => ?_⟩
  case' refine_20 =>
    have : l = 0 ∨ l = 1 ∨ l = 2 ∨ l = 3 ∨ l = 4 := by omega
    unfold ESh
    rcases this with rfl | rfl | rfl | rfl | rfl
  all_goals and_intros <;> decide +kernel
theorem rco0 : RCo H13 3 E0 := by
  refine ⟨?_, fun z => absurd (show 0 = 1 from z) (by decide), fun z => absurd (show 0 = 2 from z) (by decide), fun z => absurd (show 0 = 3 from z) (by decide), fun l hl => ⟨?_, ?_, fun k hk => absurd hk (Nat.not_lt_zero _)⟩, ?_, fun z => Bool.noConfusion (show false = true from z), fun k hk => absurd hk (Nat.not_lt_zero _), ?_, fun v hv z => Bool.noConfusion (show false = true from z)⟩
  · decide +kernel
  · have : l = 0 ∨ l = 1 ∨ l = 2 ∨ l = 3 ∨ l = 4 := by omega
    rcases this with rfl | rfl | rfl | rfl | rfl <;> decide +kernel
  · have : l = 0 ∨ l = 1 ∨ l = 2 ∨ l = 3 ∨ l = 4 := by omega
    rcases this with rfl | rfl | rfl | rfl | rfl <;> decide +kernel
  · decide +kernel
  · decide +kernel
theorem ca0 {a : Nat} (h : ah_k H13 a = 20 ∧ ah_z H13 a = 4 ∧ ∀ v, v < 4 → ah_i H13 a v = nI 0) : ∃ c, CA H13 a c := ⟨fun _ => 0, h.1, h.2.1, fun v hv => ⟨h.2.2 v hv, Nat.zero_le _⟩⟩
theorem rpt0 : RPT H13 (PGo (fun _ => E0) [] []) := by
  refine ⟨⟨?_, ?_, ?_, ?_, ?_, ?_, ?_, fun i hi => absurd hi (Nat.not_lt_zero _)⟩, fun s hs => ?_, fun p hp => ?_⟩
  · decide +kernel
  · decide +kernel
  · show ah_l H13 31 13 = 0; decide +kernel
  · show ah_l H13 31 14 = 0; decide +kernel
  · show ah_l H13 31 15 = 0; decide +kernel
  · show ah_l H13 31 16 = 0; decide +kernel
  · show ah_l H13 31 17 = 0; decide +kernel
  · have s0 : s = 0 := Nat.lt_one_iff.mp hs
    rw [s0]
    show ah_l H13 37 0 = 0
    decide +kernel
  · show ah_l H13 38 p = 0 ∧ ah_l H13 39 p = 0
    have q : ∀ p, p < 64 → ah_l H13 38 p = 0 ∧ ah_l H13 39 p = 0 := by decide +kernel
    exact q p hp
theorem civ0 : CIV H13 0 (fun _ => 0) E0 0 (fun _ => E0) [] [] 0 0 0 0 (fun _ => 0) (fun _ => 0) 3 := by
  refine ⟨⟨shp13, by rw [n_13.1]; exact Nat.le_refl _⟩, ⟨by decide +kernel, by decide, fun j z => absurd z (Nat.not_lt_zero _)⟩, ⟨⟨by decide +kernel, rsh0, rco0, by decide⟩, Or.inl rfl, by rw [n_13.1]; decide⟩, ?_, ?_, ?_, ?_⟩
  · refine ⟨⟨by decide +kernel, by decide +kernel, by decide, fun n z => absurd z (Nat.not_lt_zero _)⟩, by decide +kernel, fun n _ h => ?_, fun n z => absurd z (Nat.not_lt_zero _)⟩
    have q : ∀ n, n < 20 → ah_r H13 2 n = none := by decide +kernel
    exact q n h
  · refine ⟨⟨true, ⟨by decide +kernel, by decide, fun a z => absurd z (Nat.not_lt_zero _)⟩, ⟨by decide +kernel, by decide, fun a z => absurd z (Nat.not_lt_zero _)⟩, by decide +kernel⟩, ca0 (by decide +kernel), ca0 (by decide +kernel), false, by decide +kernel⟩
  · exact ⟨⟨⟨shp13, rpt0, piv0.ok⟩, ⟨by decide +kernel, by decide +kernel, by decide +kernel, by decide, by decide, by decide⟩, by decide +kernel, Or.inl (by decide +kernel)⟩, fun i z => absurd z (Nat.not_lt_zero _)⟩
  · exact ⟨by decide +kernel, by decide, fun j z => absurd z (Nat.not_lt_zero _)⟩
