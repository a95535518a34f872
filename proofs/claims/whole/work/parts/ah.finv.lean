/-! THE FIRST HEAP IS RIGHT -/
theorem piv0 : PIV 0 E0 0 (fun _ => E0) [] [] 0 0 0 := by
  refine ⟨E0_ok, by decide, ⟨by decide, fun n z => absurd z (Nat.not_lt_zero _)⟩, ⟨?_, ?_, ?_, ?_⟩, fun n c z => absurd z (Nat.not_lt_zero _), by decide, by decide, by decide⟩
  · exact ⟨List.nodup_nil, List.nodup_nil, by decide, by decide, fun x z => absurd z List.not_mem_nil, fun x z => absurd z List.not_mem_nil⟩
  · exact fun X _ _ x z => absurd z List.not_mem_nil
  · exact fun t z => absurd z List.not_mem_nil
  · exact fun _ n c z => absurd z (Nat.not_lt_zero _)
theorem rsh0 : RSh H13 3 := by
  unfold RSh
  refine ⟨?_, ?_, ?_, ?_, ?_, ?_, ?_, ?_, ?_, ?_, ?_, ?_, ?_, ?_, ?_, ?_, ?_, ?_, ?_, fun l hl => ?_⟩
  case' refine_20 =>
    have : l = 0 ∨ l = 1 ∨ l = 2 ∨ l = 3 ∨ l = 4 := by omega
    unfold ESh
    rcases this with rfl | rfl | rfl | rfl | rfl
  all_goals and_intros <;> decide +kernel
theorem rco0 : RCo H13 3 E0 := by
  refine ⟨?_, fun z => absurd (show 0 = 1 from z) (by decide), fun z => absurd (show 0 = 2 from z) (by decide), fun z => absurd (show 0 = 3 from z) (by decide), fun l hl => ⟨?_, ?_, fun k hk => absurd hk (Nat.not_lt_zero _)⟩, ?_, fun z => Bool.noConfusion (show false = true from z), fun k hk => absurd hk (Nat.not_lt_zero _), ?_, fun v hv z => Bool.noConfusion (show false = true from z)⟩
  · decide +kernel
  · have : l = 0 ∨ l = 1 ∨ l = 2 ∨ l = 3 ∨ l = 4 := by omega
    rcases this with rfl | rfl | rfl | rfl | rfl <;> decide +kernel
  · have : l = 0 ∨ l = 1 ∨ l = 2 ∨ l = 3 ∨ l = 4 := by omega
    rcases this with rfl | rfl | rfl | rfl | rfl <;> decide +kernel
  · decide +kernel
  · decide +kernel
theorem mrw0 : MRw H13 51 0 E0 := by
  refine ⟨?_, fun j hj => ?_, fun l hl => ⟨?_, fun k hk => absurd hk (Nat.not_lt_zero _)⟩, fun v hv => ⟨?_, fun z => Bool.noConfusion (show false = true from z)⟩, ?_, fun z => Bool.noConfusion (show false = true from z), ?_, fun k hk => absurd hk (Nat.not_lt_zero _)⟩
  · decide +kernel
  · have : j = 0 ∨ j = 1 ∨ j = 2 := by omega
    rcases this with rfl | rfl | rfl <;> decide +kernel
  · have : l = 0 ∨ l = 1 ∨ l = 2 ∨ l = 3 := by omega
    rcases this with rfl | rfl | rfl | rfl <;> decide +kernel
  · have : v = 0 ∨ v = 1 ∨ v = 2 ∨ v = 3 := by omega
    rcases this with rfl | rfl | rfl | rfl <;> decide +kernel
  · decide +kernel
  · decide +kernel
theorem ca0 {a : Nat} (h : ah_k H13 a = 20 ∧ ah_z H13 a = 4 ∧ ∀ v, v < 4 → ah_i H13 a v = nI 0) : ∃ c, CA H13 a c := ⟨fun _ => 0, h.1, h.2.1, fun v hv => ⟨h.2.2 v hv, Nat.zero_le _⟩⟩
theorem rpt0 : RPT H13 (PGo (fun _ => E0) [] []) := by
  refine ⟨⟨?_, ?_, ?_, ?_, ?_, ?_, ?_, fun i hi => absurd hi (Nat.not_lt_zero _)⟩, fun s hs => ?_, fun p hp => ?_⟩
  · decide +kernel
  · decide +kernel
  · show ah_l H13 31 13 = 0; decide +kernel
  · show ah_l H13 31 14 = 0; decide +kernel
  · show ah_l H13 31 15 = 0; decide +kernel
  · show ah_l H13 31 16 = 0; decide +kernel
  · show ah_l H13 31 17 = 0; decide +kernel
  · have s0 : s = 0 := Nat.lt_one_iff.mp hs
    rw [s0]
    show ah_l H13 37 0 = 0
    decide +kernel
  · show ah_l H13 38 p = 0 ∧ ah_l H13 39 p = 0
    have q : ∀ p, p < 64 → ah_l H13 38 p = 0 ∧ ah_l H13 39 p = 0 := by decide +kernel
    exact q p hp
theorem civ0 : CIV H13 0 (fun _ => 0) E0 0 (fun _ => E0) [] [] 0 0 0 0 (fun _ => 0) (fun _ => 0) 3 := by
  refine ⟨⟨shp13, by rw [n_13.1]; exact Nat.le_refl _⟩, ⟨by decide +kernel, by decide, fun j z => absurd z (Nat.not_lt_zero _)⟩, ⟨⟨by decide +kernel, rsh0, rco0, by decide⟩, Or.inl rfl, by rw [n_13.1]; decide⟩, ?_, ?_, ?_, ?_⟩
  · refine ⟨⟨by decide +kernel, by decide +kernel, by decide, fun n z => absurd z (Nat.not_lt_zero _)⟩, by decide +kernel, fun n _ h => ?_, fun n z => absurd z (Nat.not_lt_zero _)⟩
    have q : ∀ n, n < 20 → ah_r H13 2 n = none := by decide +kernel
    exact q n h
  · refine ⟨⟨true, ⟨by decide +kernel, by decide, fun a z => absurd z (Nat.not_lt_zero _)⟩, ⟨by decide +kernel, by decide, fun a z => absurd z (Nat.not_lt_zero _)⟩, by decide +kernel⟩, ca0 (by decide +kernel), ca0 (by decide +kernel), false, by decide +kernel⟩
  · exact ⟨⟨⟨shp13, rpt0, piv0.ok⟩, ⟨by decide +kernel, by decide +kernel, by decide +kernel, by decide, by decide, by decide⟩, by decide +kernel, Or.inl (by decide +kernel)⟩, fun i z => absurd z (Nat.not_lt_zero _)⟩
  · exact ⟨by decide +kernel, by decide, fun j z => absurd z (Nat.not_lt_zero _)⟩
theorem miv0 : MIV H13 0 (fun _ => 0) E0 0 (fun _ => E0) [] [] 0 0 0 0 (fun _ => 0) (fun _ => 0) := by
  refine ⟨⟨by decide +kernel, by decide, fun j z => absurd z (Nat.not_lt_zero _)⟩, mrw0, ⟨⟨by decide, fun n z => absurd z (Nat.not_lt_zero _)⟩, by decide +kernel⟩, ⟨⟨⟨by decide +kernel, by decide, fun x hx => ?_, fun k z => absurd z (Nat.not_lt_zero _)⟩, by decide +kernel, by decide, fun i z => absurd z (Nat.not_lt_zero _)⟩, fun a z => absurd z (Nat.not_lt_zero _)⟩, ⟨⟨by decide +kernel, by decide +kernel, fun i z => absurd z (Nat.not_lt_zero _)⟩, ⟨by decide +kernel, by decide, fun a z => absurd z (Nat.not_lt_zero _)⟩, Or.inl (by decide +kernel)⟩, by decide +kernel, by decide, fun j z => absurd z (Nat.not_lt_zero _)⟩
  show ah_i H13 53 x = nI 0
  have q : ∀ x, x < 600 → ah_i H13 53 x = nI 0 := by decide +kernel
  exact q x hx
theorem inva0 : INVA H13 := ⟨0, _, E0, 0, _, [], [], 0, 0, 0, 0, _, _, 3, piv0, civ0, miv0, by decide +kernel, by decide +kernel⟩
