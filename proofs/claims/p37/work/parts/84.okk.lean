/-! THE DRAFT AFTER A DROP; RULES STAY RIGHT -/
theorem dr_co {h : AH} {r : Nat} {R : RW} (c : RCo h r R) : RCo (hDr h r) r (clrR R) := by
  obtain ⟨c1, c2, c3, c4, c5, c6, c7, c8, c9, c10⟩ := c
  have e0 : eO 0 = 2 := rfl
  have e1 : eO 1 = 4 := rfl
  have e2 : eO 2 = 6 := rfl
  have e3 : eO 3 = 8 := rfl
  have e4 : eO 4 = 11 := rfl
  refine ⟨?_, fun z => absurd (show 0 = 1 from z) (by decide), fun z => absurd (show 0 = 2 from z) (by decide), fun z => absurd (show 0 = 3 from z) (by decide), fun l hl => ⟨?_, ?_, fun k hk => absurd hk (Nat.not_lt_zero _)⟩, ?_, fun z => Bool.noConfusion (show false = true from z), fun k hk => absurd hk (Nat.not_lt_zero _), ?_, fun v hv z => Bool.noConfusion (show false = true from z)⟩
  · show ah_i (hDr h r) (r + 1) 0 = nI 0
    unfold hDr
    repeat (first | exact ai_y | refine (ai_n (by omega)).trans ?_)
  · have := eO_lt l
    have ej := eO_in hl hl
    unfold hDr
    rw [ai_n (by omega), ai_n (by omega), ai_n (by omega), ai_n (by omega), ai_n (by omega), ai_n (by omega), ai_n (by omega), ai_n (by omega)]
    exact (c5 l hl).1
  · show ah_i (hDr h r) (r + eO l) 2 = nI 0
    have : l = 0 ∨ l = 1 ∨ l = 2 ∨ l = 3 ∨ l = 4 := by omega
    unfold hDr
    rcases this with rfl | rfl | rfl | rfl | rfl
    all_goals repeat (first | exact ai_y | refine (ai_n (by omega)).trans ?_)
  · show ah_i (hDr h r) (r + 10) 0 = nI 0
    unfold hDr
    repeat (first | exact ai_y | refine (ai_n (by omega)).trans ?_)
  · show ah_i (hDr h r) r 7 = nI (msk 4 fun _ => false)
    rw [(msk_z 4 fun _ => false).mpr fun _ _ => rfl]
    exact ai_y
theorem RCo_W {h : AH} {r : Nat} {R : RW} (c : RCo h r R) (w : Int32) : RCo (ap_i h (r + 13) (R_n R 4) w) r (setW R (R_n R 4) w) := by
  obtain ⟨c1, c2, c3, c4, c5, c6, c7, c8, c9, c10⟩ := c
  refine ⟨?_, fun z => ?_, fun z => ?_, fun z => ?_, fun j hj => ?_, ?_, fun z => ?_, fun k hk => ?_, ?_, fun v hv z => ?_⟩
  · rw [ai_n (by omega)]; exact c1
  · rw [ai_n (by omega), ai_n (by omega)]; exact c2 z
  · rw [ai_n (by omega), ai_n (by omega)]; exact c3 z
  · rw [ai_n (by omega), ai_n (by omega), ai_n (by omega)]; exact c4 z
  · have e2 := eO_lt j
    have ej := eO_in hj hj
    rw [ai_n (by omega), ai_n (by omega)]
    obtain ⟨d1, d2, d3⟩ := c5 j hj
    refine ⟨d1, d2, fun k hk => ?_⟩
    rw [ai_n (by omega)]; exact d3 k hk
  · rw [ai_n (by omega)]; exact c6
  · rw [ai_n (by omega), ai_n (by omega)]; exact c7 z
  · have hk : k < R_n R 4 := hk
    rw [ai_n (by omega)]
    show _ = if k = R_n R 4 then w else R_w R k
    rw [if_neg (by omega)]; exact c8 k hk
  · rw [ai_n (by omega)]; exact c9
  · rw [ai_n (by omega), ai_n (by omega)]; exact c10 v hv z
/-- an element behind the others, in the class -/
theorem el_co {h : AH} {r : Nat} {R : RW} (c : RCo h r R) (w : Int32) (p x y : Nat) : RCo (pushC (ap_i h (r + 13) (R_n R 4) w) r R 4 p x y) r (addL (setW R (R_n R 4) w) 4 p x y) := by
  have := RCo_add (RCo_W c w) (l := 4) (by omega) p x y (fun _ => ?_)
  · exact this
  · show ah_i (ap_i h (r + 13) (R_n R 4) w) (r + 13) (R_n R 4) = if R_n R 4 = R_n R 4 then w else R_w R (R_n R 4)
    rw [ai_y, if_pos rfl]
theorem ok_add {np : Nat} {R : RW} (o : R_ok np R) {l p x y : Nat} (hl : l < 4) (hn : R_n R l < 3) (hx : VT x) (hy : VT y) (hp : if l = 3 then p ≤ 3 else p < np) (h0 : l = 0 → R_kd R < 2) : R_ok np (addL R l p x y) := by
  obtain ⟨o1, o2, o3, o4, o5, o6, o7, o8, o9, o10, o11, o12⟩ := o
  have pp : ∀ j k, R_p (addL R l p x y) j k = if j = l ∧ k = R_n R l then p else R_p R j k := fun _ _ => rfl
  have aa : ∀ j k, R_a (addL R l p x y) j k = if j = l ∧ k = R_n R l then x else R_a R j k := fun _ _ => rfl
  have bb : ∀ j k, R_b (addL R l p x y) j k = if j = l ∧ k = R_n R l then y else R_b R j k := fun _ _ => rfl
  refine ⟨o1, fun j hj => ?_, ?_, fun j k hj hk => ?_, fun k hk => ?_, fun j k hj hk => ?_, o7, o8, o9, o10, fun z => ?_, fun z => ?_⟩
  · rw [n_add]
    by_cases q : j = l
    · rw [if_pos q]; omega
    · rw [if_neg q]; exact o2 j hj
  · rw [n_add, if_neg (by omega)]; exact o3
  · rw [n_add] at hk
    rw [aa, bb]
    by_cases q : j = l ∧ k = R_n R l
    · rw [if_pos q, if_pos q]; exact ⟨hx, hy⟩
    · rw [if_neg q, if_neg q]
      by_cases q2 : j = l
      · rw [if_pos q2] at hk
        exact o4 j k hj (by subst q2; have : k ≠ R_n R j := fun z => q ⟨rfl, z⟩; omega)
      · rw [if_neg q2] at hk; exact o4 j k hj hk
  · rw [n_add, if_neg (by omega)] at hk
    rw [aa, bb, if_neg (by omega), if_neg (by omega)]; exact o5 k hk
  · rw [n_add] at hk
    rw [pp]
    by_cases q : j = l ∧ k = R_n R l
    · rw [if_pos q, q.1]; exact hp
    · rw [if_neg q]
      by_cases q2 : j = l
      · rw [if_pos q2] at hk
        exact o6 j k hj (by subst q2; have : k ≠ R_n R j := fun z => q ⟨rfl, z⟩; omega)
      · rw [if_neg q2] at hk; exact o6 j k hj hk
  · rw [n_add]
    have z : 2 ≤ R_kd R := z
    by_cases q : 0 = l
    · have := h0 q.symm; omega
    · rw [if_neg q]; exact o11 z
  · rw [n_add, if_neg (by omega)]; exact o12 z
