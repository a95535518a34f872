/-! THE REFERENCE'S DRAFT: ROWS AFTER A CALL -/
theorem MRw.c {h h' : AH} {arr b : Nat} {R : RW} (m : MRw h arr b R) (e : ∀ j, ah_i h' arr j = ah_i h arr j) : MRw h' arr b R := by
  unfold MRw at *
  simp only [e]
  exact m
theorem MRw_K {h h' : AH} {R : RW} (m : MRw h 51 0 R) {k : Nat} {g : Nat → Int32} (e : ∀ j, 4 ≤ j → ah_i h' 51 j = ah_i h 51 j) (h0 : ah_i h' 51 0 = nI k) (hg : ∀ j, j < 3 → ah_i h' 51 (0 + 1 + j) = g j) : MRw h' 51 0 (setK R k g) := by
  obtain ⟨m1, m2, m3, m4, m5, m6, m7, m8⟩ := m
  refine ⟨h0, hg, fun l hl => ⟨?_, fun k hk => ⟨?_, ?_, ?_⟩⟩, fun v hv => ⟨?_, fun z => ?_⟩, ?_, fun z => ⟨?_, ?_⟩, ?_, fun k hk => ⟨?_, ?_, ?_, ?_⟩⟩
  · rw [e _ (by omega)]; exact (m3 l hl).1
  · rw [e _ (by omega)]; exact ((m3 l hl).2 k hk).1
  · rw [e _ (by omega)]; exact ((m3 l hl).2 k hk).2.1
  · rw [e _ (by omega)]; exact ((m3 l hl).2 k hk).2.2
  · rw [e _ (by omega)]; exact (m4 v hv).1
  · rw [e _ (by omega)]; exact (m4 v hv).2 z
  · rw [e _ (by omega)]; exact m5
  · rw [e _ (by omega)]; exact (m6 z).1
  · rw [e _ (by omega)]; exact (m6 z).2
  · rw [e _ (by omega)]; exact m7
  · rw [e _ (by omega)]; exact (m8 k hk).1
  · rw [e _ (by omega)]; exact (m8 k hk).2.1
  · rw [e _ (by omega)]; exact (m8 k hk).2.2.1
  · rw [e _ (by omega)]; exact (m8 k hk).2.2.2
theorem MRw_I {h h' : AH} {R : RW} (m : MRw h 51 0 R) (o : R_len R) {v f t : Nat} (hv : v < 4) (e : ∀ j, j ≠ 45 + 2 * v → j ≠ 46 + 2 * v → ah_i h' 51 j = ah_i h 51 j) (h0 : ah_i h' 51 (45 + 2 * v) = nI f) (h1 : ah_i h' 51 (46 + 2 * v) = nI t) : MRw h' 51 0 (setI R v f t) := by
  obtain ⟨m1, m2, m3, m4, m5, m6, m7, m8⟩ := m
  refine ⟨?_, fun j hj => ?_, fun l hl => ⟨?_, fun k hk => ?_⟩, fun w hw => ?_, ?_, fun z => ⟨?_, ?_⟩, ?_, fun k hk => ⟨?_, ?_, ?_, ?_⟩⟩
  · rw [e _ (by omega) (by omega)]; exact m1
  · rw [e _ (by omega) (by omega)]; exact m2 j hj
  · rw [e _ (by omega) (by omega)]; exact (m3 l hl).1
  · have hk : k < R_n R l := hk
    have := o.1 l hl
    rw [e _ (by omega) (by omega), e _ (by omega) (by omega), e _ (by omega) (by omega)]; exact (m3 l hl).2 k hk
  · show ah_i h' 51 (0 + 45 + 2 * w) = (if (decide (w = v) || R_il R w) = true then nI (if w = v then f else R_fr R w) else -1) ∧ ((decide (w = v) || R_il R w) = true → ah_i h' 51 (0 + 46 + 2 * w) = nI (if w = v then t else R_to R w))
    by_cases q : w = v
    · subst q
      rw [show 0 + 45 + 2 * w = 45 + 2 * w by omega, show 0 + 46 + 2 * w = 46 + 2 * w by omega, if_pos rfl, if_pos rfl, if_pos (by simp)]
      exact ⟨h0, fun _ => h1⟩
    · rw [if_neg q, if_neg q, decide_eq_false q, Bool.false_or, e _ (by omega) (by omega), e _ (by omega) (by omega)]
      exact m4 w hw
  · rw [e _ (by omega) (by omega)]; exact m5
  · rw [e _ (by omega) (by omega)]; exact (m6 z).1
  · rw [e _ (by omega) (by omega)]; exact (m6 z).2
  · rw [e _ (by omega) (by omega)]; exact m7
  · rw [e _ (by omega) (by omega)]; exact (m8 k hk).1
  · rw [e _ (by omega) (by omega)]; exact (m8 k hk).2.1
  · rw [e _ (by omega) (by omega)]; exact (m8 k hk).2.2.1
  · rw [e _ (by omega) (by omega)]; exact (m8 k hk).2.2.2
theorem MRw_S {h h' : AH} {R : RW} (m : MRw h 51 0 R) (o : R_len R) {a b : Int32} (e : ∀ j, j < 53 ∨ 56 ≤ j → ah_i h' 51 j = ah_i h 51 j) (h0 : ah_i h' 51 53 = nI 1) (h1 : ah_i h' 51 54 = a) (h2 : ah_i h' 51 55 = b) : MRw h' 51 0 (setS R a b) := by
  obtain ⟨m1, m2, m3, m4, m5, m6, m7, m8⟩ := m
  refine ⟨?_, fun j hj => ?_, fun l hl => ⟨?_, fun k hk => ?_⟩, fun w hw => ⟨?_, fun z => ?_⟩, h0, fun z => ⟨h1, h2⟩, ?_, fun k hk => ⟨?_, ?_, ?_, ?_⟩⟩
  · rw [e _ (by omega)]; exact m1
  · rw [e _ (by omega)]; exact m2 j hj
  · rw [e _ (by omega)]; exact (m3 l hl).1
  · have hk : k < R_n R l := hk
    have := o.1 l hl
    rw [e _ (by omega), e _ (by omega), e _ (by omega)]; exact (m3 l hl).2 k hk
  · rw [e _ (by omega)]; exact (m4 w hw).1
  · rw [e _ (by omega)]; exact (m4 w hw).2 z
  · rw [e _ (by omega)]; exact m7
  · rw [e _ (by omega)]; exact (m8 k hk).1
  · rw [e _ (by omega)]; exact (m8 k hk).2.1
  · rw [e _ (by omega)]; exact (m8 k hk).2.2.1
  · rw [e _ (by omega)]; exact (m8 k hk).2.2.2
theorem MRw_E {h h' : AH} {R : RW} (m : MRw h 51 0 R) (o : R_len R) {w : Int32} {p x y : Nat} (e : ∀ j, j ≠ 56 → (j < 57 + 4 * R_n R 4 ∨ 61 + 4 * R_n R 4 ≤ j) → ah_i h' 51 j = ah_i h 51 j) (h0 : ah_i h' 51 56 = nI (R_n R 4 + 1)) (h1 : ah_i h' 51 (57 + 4 * R_n R 4) = w) (h2 : ah_i h' 51 (58 + 4 * R_n R 4) = nI p) (h3 : ah_i h' 51 (59 + 4 * R_n R 4) = tm x) (h4 : ah_i h' 51 (60 + 4 * R_n R 4) = tm y) : MRw h' 51 0 (addL (setW R (R_n R 4) w) 4 p x y) := by
  obtain ⟨m1, m2, m3, m4, m5, m6, m7, m8⟩ := m
  have nn : ∀ j, R_n (addL (setW R (R_n R 4) w) 4 p x y) j = if j = 4 then R_n R 4 + 1 else R_n R j := fun _ => rfl
  have pp : ∀ j k, R_p (addL (setW R (R_n R 4) w) 4 p x y) j k = if j = 4 ∧ k = R_n R 4 then p else R_p R j k := fun _ _ => rfl
  have aa : ∀ j k, R_a (addL (setW R (R_n R 4) w) 4 p x y) j k = if j = 4 ∧ k = R_n R 4 then x else R_a R j k := fun _ _ => rfl
  have bb : ∀ j k, R_b (addL (setW R (R_n R 4) w) 4 p x y) j k = if j = 4 ∧ k = R_n R 4 then y else R_b R j k := fun _ _ => rfl
  have ww : ∀ k, R_w (addL (setW R (R_n R 4) w) 4 p x y) k = if k = R_n R 4 then w else R_w R k := fun _ => rfl
  refine ⟨?_, fun j hj => ?_, fun l hl => ⟨?_, fun k hk => ?_⟩, fun w hw => ⟨?_, fun z => ?_⟩, ?_, fun z => ⟨?_, ?_⟩, ?_, fun k hk => ?_⟩
  · rw [e _ (by omega) (by omega)]; exact m1
  · rw [e _ (by omega) (by omega)]; exact m2 j hj
  · rw [nn, if_neg (by omega), e _ (by omega) (by omega)]; exact (m3 l hl).1
  · rw [nn, if_neg (by omega)] at hk
    have := o.1 l hl
    rw [pp, aa, bb, if_neg (by omega), if_neg (by omega), if_neg (by omega), e _ (by omega) (by omega), e _ (by omega) (by omega), e _ (by omega) (by omega)]; exact (m3 l hl).2 k hk
  · rw [e _ (by omega) (by omega)]; exact (m4 w hw).1
  · rw [e _ (by omega) (by omega)]; exact (m4 w hw).2 z
  · rw [e _ (by omega) (by omega)]; exact m5
  · rw [e _ (by omega) (by omega)]; exact (m6 z).1
  · rw [e _ (by omega) (by omega)]; exact (m6 z).2
  · rw [nn, if_pos rfl]; exact h0
  · rw [nn, if_pos rfl] at hk
    rw [pp, aa, bb, ww]
    by_cases q : k = R_n R 4
    · subst q
      rw [if_pos rfl, if_pos ⟨rfl, rfl⟩, if_pos ⟨rfl, rfl⟩, if_pos ⟨rfl, rfl⟩, show 0 + 57 + 4 * R_n R 4 = 57 + 4 * R_n R 4 by omega, show 0 + 58 + 4 * R_n R 4 = 58 + 4 * R_n R 4 by omega, show 0 + 59 + 4 * R_n R 4 = 59 + 4 * R_n R 4 by omega, show 0 + 60 + 4 * R_n R 4 = 60 + 4 * R_n R 4 by omega]
      exact ⟨h1, h2, h3, h4⟩
    · rw [if_neg q, if_neg (fun z => q z.2), if_neg (fun z => q z.2), if_neg (fun z => q z.2), e _ (by omega) (by omega), e _ (by omega) (by omega), e _ (by omega) (by omega), e _ (by omega) (by omega)]
      exact m8 k (by omega)
theorem MRw_0 {h' : AH} {R : RW} (e : ∀ j, j < 73 → (∀ v, v < 4 → j ≠ 45 + 2 * v) → ah_i h' 51 j = nI 0) (h0 : ∀ v, v < 4 → ah_i h' 51 (45 + 2 * v) = -1) : MRw h' 51 0 (clrR R) := by
  refine ⟨?_, fun j hj => ?_, fun l hl => ⟨?_, fun k hk => absurd hk (Nat.not_lt_zero _)⟩, fun v hv => ⟨?_, fun z => by cases z⟩, ?_, fun z => (by cases z), ?_, fun k hk => absurd hk (Nat.not_lt_zero _)⟩
  · exact e 0 (by omega) fun v _ => by omega
  · exact e _ (by omega) fun v _ => by omega
  · exact e _ (by omega) fun v _ => by omega
  · rw [show 0 + 45 + 2 * v = 45 + 2 * v by omega]
    exact h0 v hv
  · exact e 53 (by omega) fun v _ => by omega
  · exact e 56 (by omega) fun v _ => by omega
