/-! RULES STAY RIGHT, GOING ON -/
theorem ok_clr {np : Nat} (R : RW) : R_ok np (clrR R) := by
  refine ⟨Nat.zero_le _, fun _ _ => Nat.zero_le _, Nat.zero_le _, fun _ k _ hk => absurd hk (Nat.not_lt_zero _), fun k hk => absurd hk (Nat.not_lt_zero _), fun _ k _ hk => absurd hk (Nat.not_lt_zero _), fun _ _ z => Bool.noConfusion (show false = true from z), fun z => absurd (show 0 = 1 from z) (by decide), fun z => absurd (show 0 = 2 from z) (by decide), fun z => absurd (show 0 = 3 from z) (by decide), fun _ => rfl, fun _ => rfl⟩
theorem ok_I {np : Nat} {R : RW} (o : R_ok np R) {v f t : Nat} (hf : f ≤ t) (ht : t ≤ 9) : R_ok np (setI R v f t) := by
  obtain ⟨o1, o2, o3, o4, o5, o6, o7, o8, o9, o10, o11, o12⟩ := o
  refine ⟨o1, o2, o3, o4, o5, o6, fun w hw z => ?_, o8, o9, o10, o11, o12⟩
  have z : (decide (w = v) || R_il R w) = true := z
  show (if w = v then f else R_fr R w) ≤ (if w = v then t else R_to R w) ∧ (if w = v then t else R_to R w) ≤ 9
  by_cases q : w = v
  · rw [if_pos q, if_pos q]; exact ⟨hf, ht⟩
  · rw [if_neg q, if_neg q]
    rw [decide_eq_false q, Bool.false_or] at z
    exact o7 w hw z
theorem ok_S {np : Nat} {R : RW} (o : R_ok np R) (a b : Int32) : R_ok np (setS R a b) := by
  obtain ⟨o1, o2, o3, o4, o5, o6, o7, o8, o9, o10, o11, o12⟩ := o
  exact ⟨o1, o2, o3, o4, o5, o6, o7, o8, o9, o10, o11, fun z => Bool.noConfusion (show true = false from z)⟩
theorem cho_ex {a b : Int32} (h : choB a b = true) : ∃ x y : Nat, x ≤ 3 ∧ y ≤ 3 ∧ a = nI x ∧ b = nI y := by
  unfold choB at h
  simp only [Bool.and_eq_true, decide_eq_true_eq] at h
  obtain ⟨h1, h2, h3, h4⟩ := h
  rw [Int32.le_iff_toInt_le, nI_toInt (by decide)] at h1 h2 h4
  rw [Int32.le_iff_toInt_le] at h3
  refine ⟨a.toInt.toNat, b.toInt.toNat, by omega, by omega, ?_, ?_⟩ <;> rw [← Int32.toInt_inj, nI_toInt (by omega)] <;> omega
theorem dif_ex {x y : Nat} {e : Int32} (h : difB x y e = true) : ∃ z : Nat, z ≤ 200 ∧ e + nI 100 = nI z := by
  unfold difB at h
  simp only [Bool.and_eq_true, decide_eq_true_eq] at h
  obtain ⟨-, h1, h2⟩ := h
  rw [Int32.le_iff_toInt_le, show (-100 : Int32).toInt = -100 from rfl] at h1
  rw [Int32.le_iff_toInt_le, nI_toInt (by decide)] at h2
  have e1 : e = Int32.ofInt e.toInt := (Int32.ofInt_toInt e).symm
  generalize e.toInt = i at *
  refine ⟨(i + 100).toNat, by omega, ?_⟩
  rw [e1, show nI 100 = Int32.ofInt 100 from rfl, oI_add, ← Int32.toInt_inj, nI_toInt (by omega), Int32.toInt_ofInt_of_le (by omega) (by omega)]
  omega
theorem ok_Ch {np : Nat} {R : RW} (o : R_ok np R) {a b : Int32} (hc : choB a b = true) : R_ok np (setK R 1 (fun j => if j = 0 then a else if j = 1 then b else R_gv R j)) := by
  obtain ⟨o1, o2, o3, o4, o5, o6, o7, o8, o9, o10, o11, o12⟩ := o
  obtain ⟨x, y, h1, h2, h3, h4⟩ := cho_ex hc
  exact ⟨by show 1 ≤ 3; decide, o2, o3, o4, o5, o6, o7, fun _ => ⟨x, y, h1, h2, h3, h4⟩, fun z => absurd (show 1 = 2 from z) (by decide), fun z => absurd (show 1 = 3 from z) (by decide), fun z => absurd (show 2 ≤ 1 from z) (by decide), o12⟩
theorem ok_Wk {np : Nat} {R : RW} (o : R_ok np R) {w : Int32} {l : Nat} (hl : l < 3) (hn : R_n R 0 = 0) : R_ok np (setK R 2 (fun j => if j = 0 then w else if j = 1 then nI l else R_gv R j)) := by
  obtain ⟨o1, o2, o3, o4, o5, o6, o7, o8, o9, o10, o11, o12⟩ := o
  exact ⟨by show 2 ≤ 3; decide, o2, o3, o4, o5, o6, o7, fun z => absurd (show 2 = 1 from z) (by decide), fun _ => ⟨l, by omega, rfl⟩, fun z => absurd (show 2 = 3 from z) (by decide), fun _ => hn, o12⟩
theorem ok_Df {np : Nat} {R : RW} (o : R_ok np R) {x y : Nat} {e : Int32} (hx : x < 4) (hy : y < 4) (hc : difB x y e = true) (hn : R_n R 0 = 0) : R_ok np (setK R 3 (fun j => if j = 0 then nI x else if j = 1 then nI y else if j = 2 then e else R_gv R j)) := by
  obtain ⟨o1, o2, o3, o4, o5, o6, o7, o8, o9, o10, o11, o12⟩ := o
  obtain ⟨z, h1, h2⟩ := dif_ex hc
  exact ⟨by show 3 ≤ 3; decide, o2, o3, o4, o5, o6, o7, fun z => absurd (show 3 = 1 from z) (by decide), fun z => absurd (show 3 = 2 from z) (by decide), fun _ => ⟨x, y, z, by omega, by omega, h1, rfl, rfl, h2⟩, fun _ => hn, o12⟩
theorem ok_El {np : Nat} {R : RW} (o : R_ok np R) {w : Int32} {p x y : Nat} (hn : R_n R 4 < 4) (hs : R_su R = true) (hx : VZ x) (hy : VZ y) (hp : p < np) : R_ok np (addL (setW R (R_n R 4) w) 4 p x y) := by
  obtain ⟨o1, o2, o3, o4, o5, o6, o7, o8, o9, o10, o11, o12⟩ := o
  have nn : ∀ j, R_n (addL (setW R (R_n R 4) w) 4 p x y) j = if j = 4 then R_n R 4 + 1 else R_n R j := fun _ => rfl
  have pp : ∀ j k, R_p (addL (setW R (R_n R 4) w) 4 p x y) j k = if j = 4 ∧ k = R_n R 4 then p else R_p R j k := fun _ _ => rfl
  have aa : ∀ j k, R_a (addL (setW R (R_n R 4) w) 4 p x y) j k = if j = 4 ∧ k = R_n R 4 then x else R_a R j k := fun _ _ => rfl
  have bb : ∀ j k, R_b (addL (setW R (R_n R 4) w) 4 p x y) j k = if j = 4 ∧ k = R_n R 4 then y else R_b R j k := fun _ _ => rfl
  refine ⟨o1, fun j hj => ?_, ?_, fun j k hj hk => ?_, fun k hk => ?_, fun j k hj hk => ?_, o7, o8, o9, o10, fun z => ?_, fun z => ?_⟩
  · rw [nn, if_neg (by omega)]; exact o2 j hj
  · rw [nn, if_pos rfl]; omega
  · rw [nn, if_neg (by omega)] at hk
    rw [aa, bb, if_neg (by omega), if_neg (by omega)]; exact o4 j k hj hk
  · rw [nn, if_pos rfl] at hk
    rw [aa, bb]
    by_cases q : k = R_n R 4
    · rw [if_pos ⟨rfl, q⟩, if_pos ⟨rfl, q⟩]; exact ⟨hx, hy⟩
    · rw [if_neg (fun z => q z.2), if_neg (fun z => q z.2)]; exact o5 k (by omega)
  · rw [nn] at hk
    rw [pp]
    by_cases q : j = 4 ∧ k = R_n R 4
    · rw [if_pos q, if_neg (by omega)]; exact hp
    · rw [if_neg q]
      by_cases q2 : j = 4
      · rw [if_pos q2] at hk
        exact o6 j k hj (by subst q2; have : k ≠ R_n R 4 := fun z => q ⟨rfl, z⟩; omega)
      · rw [if_neg q2] at hk; exact o6 j k hj hk
  · rw [nn, if_neg (by omega)]; exact o11 z
  · have z : R_su R = false := z
    rw [z] at hs; cases hs
