/-! CALLS OF BOTH SIDES: 11 -/
theorem TT_mono {sc : (Nat → Int32) × Nat} {d mi ip : Nat} {Q Q' : Rs → AH → Prop} {ls st : List Value} {h : AH} (H : TT sc d mi Q ip ls st h) (m : ∀ r h', Q r h' → Q' r h') : TT sc d mi Q' ip ls st h := by
  obtain ⟨n, r, h', g, q⟩ := H
  exact ⟨n, r, h', g, m r h' q⟩
section OPS
variable {sc : (Nat → Int32) × Nat} {h h' : AH} {np : Nat} {pl : Nat → Nat} {R : RW} {m : Nat} {Ro : Nat → RW} {A I : List Nat} {X T F pc : Nat} {pa pb : Nat → Nat} {r : Nat}
theorem RCo_E {R : RW} (c : RCo h r E0) : RCo h r (clrR R) := ⟨c.1, fun z => absurd (show 0 = 1 from z) (by decide), fun z => absurd (show 0 = 2 from z) (by decide), fun z => absurd (show 0 = 3 from z) (by decide), fun l hl => ⟨(c.2.2.2.2.1 l hl).1, (c.2.2.2.2.1 l hl).2.1, fun k hk => absurd hk (Nat.not_lt_zero _)⟩, c.2.2.2.2.2.1, fun z => Bool.noConfusion (show false = true from z), fun k hk => absurd hk (Nat.not_lt_zero _), c.2.2.2.2.2.2.2.2.1, fun v hv z => Bool.noConfusion (show false = true from z)⟩
theorem GV_ins {E : Nat → Prop} (o : RsO Ro m) (o' : RsO (ins Ro m R) (m + 1)) (g : GV E Ro m (A, I, true)) : GV E (ins Ro m R) (m + 1) (A, I, true) := by
  have e : ∀ n, n < m → ins Ro m R n = Ro n := fun n hn => if_neg (by omega)
  obtain ⟨g1, g2, g3, g4⟩ := g
  refine ⟨g1, fun X h1 h2 => g2 X h1 fun n c hn z => by
    have := h2 n c (by omega)
    rw [e n hn] at this
    exact this z, fun t ht => ?_, fun ok n c hn z ht => ?_⟩
  · obtain ⟨n, c, q1, q2, q3, q4⟩ := g3 t ht
    exact ⟨n, c, by omega, by rw [e n q1]; exact q2, q3, by rw [e n q1]; exact q4⟩
  · by_cases w : n < m
    · rw [e n w] at z ⊢
      exact g4 ok n c w z ht
    · obtain ⟨n', c', q1, q2, q3, q4⟩ := g3 _ ht
      have := (tl4_i (z.le (o'.2 n hn)) (q2.le (o.2 n' q1)) z.2 q2.2 q3).1
      omega
theorem CIV.lk (p : PIV np R m Ro A I X T F) (c : CIV h np pl R m Ro A I X T F pc pa pb r) : CIV (hLk h r R) np pl R m Ro A I X T F pc pa pb r :=
  c.dr p ((lk_fr (h := h) (r := r) (R := R)).mono fun a k z => Or.inl ⟨by omega, by omega⟩) (hLk_ok c.2.2.1.1.2.2.1).2
/-- the class after enter -/
theorem CIVen {S' : gS} {q : Rs} (p : PIV np R m Ro A I X T F) (c : CIV h np pl R m Ro A I X T F pc pa pb r) (o6 : R_ok 6 R) (m20 : m < 20) (hA : A.length ≤ S'.1.length) (ok : S'.2.2 = true) (ir : irs (ins Ro m R) (m + 1) S'.1 S'.2.1) (lk : LKD h r R) (t : R12 h r m R Ro S' q h') : CIV h' np pl (clrR R) (m + 1) (ins Ro m R) S'.1 S'.2.1 X T F pc pa pb (ah_n h) ∧ (OU h → OU h') ∧ ah_n h' = ah_n h + 16 ∧ ah_u h' = ah_u h + 71 ∧ (∀ a k, 49 ≤ a → a ≤ 69 → ah_i h' a k = ah_i h a k ∧ ah_l h' a k = ah_l h a k) := by
  obtain ⟨_, h1, h3, f1, g1, a1, m1, f3, c3, r3, rfl⟩ := t
  obtain ⟨⟨c1, n70⟩, c2, ⟨⟨d1, d2, d3, d4⟩, c4, c5⟩, ⟨ra, b1, b2, b3⟩, ⟨_, _, ⟨x26, c26⟩, b5, g5⟩, ⟨⟨q1, q2, q3, q4⟩, q5⟩, c9⟩ := c
  have n1 : ah_n h1 = ah_n h := f1.1
  have u1 : ah_u h1 = ah_u h := f1.2.1
  have hnw := hNw_n (h0 := h1) (us := 10)
  have hnf := hNw_f (h0 := h1) (us := 10) rfl
  have hp1 : SHP h1 := (SHP_r c1).fr f1
  have g := hNw_g (h0 := h1) (us := 10) rfl
  rw [n1] at f3 hnw hnf g
  have r3' : r = 3 ∨ 70 ≤ r := c4
  have ra1 : RA h1 2 (m + 1) (ins Ro m R) := (RA_in ra m20 ⟨d2, d3, lk, o6⟩ c4).fr f1 fun q hq j k hj z => by
    rcases z with z | z
    · exact sg_w (Or.inl rfl) q hq j k hj z
    · have q3 : q = 3 ∨ 70 ≤ q := hq
      omega
  have rl : ∀ n, n < m + 1 → ∃ q, ah_r h1 2 n = some q ∧ q + 15 < ah_n h := fun n hn' => by
    rw [f1.k.2.2, ar_r]
    by_cases e : n = m
    · exact ⟨r, by rw [if_pos ⟨rfl, e⟩], c5⟩
    · rw [if_neg (by omega)]
      obtain ⟨q, q1, q2⟩ := b3 n (by omega)
      exact ⟨q, q1, by omega⟩
  have f2 : FV (hNw (ap_n h1 8 0 10) (ah_n h)) (ap_r (hNw (ap_n h1 8 0 10) (ah_n h)) 0 4 (some (ah_n h))) (fun _ _ => False) (fun a k => a = 0 ∧ k = 4) := (FV.refl _ _ _).r ⟨rfl, rfl⟩
  have f4 : FR h3 (ap_i h3 0 13 (nI 0)) (fun a k => a = 0 ∧ k = 13) := (FR.refl _ _).i ⟨rfl, rfl⟩
  -- all the way, below the new cells
  have EI : ∀ a k, a < ah_n h → ¬ (19 ≤ a ∧ a ≤ 22) → ¬ (a = 0 ∧ (k = 3 ∨ k = 13)) → ¬ S25 a k → ah_i (ap_i h3 0 13 (nI 0)) a k = ah_i h a k ∧ ah_l (ap_i h3 0 13 (nI 0)) a k = ah_l h a k := fun a k z1 z2 z3 z4 => by
    have w1 : ¬ (SG 19 a k ∨ a = 0 ∧ k = 3) := fun y => by
      rcases y with y | y
      · exact z2 ⟨y.1, y.2⟩
      · omega
    refine ⟨(f4.ci (by omega)).trans ((f3.ci z4).trans ((g.i a k z1).trans (f1.ci w1))), (f4.cl (by omega)).trans ((f3.cl z4).trans ((g.l a k z1).trans (f1.cl w1)))⟩
  have n25 : ∀ a k, a < 31 → ¬ S25 a k := fun a k ha z => by unfold S25 at z; omega
  have E2 : ∀ n, ah_r (ap_i h3 0 13 (nI 0)) 2 n = ah_r h1 2 n := fun n => by
    rw [ar_i, f3.cr (fun z => absurd (show 2 = 32 from z) (by decide)), ar_r, if_neg (by omega), g.r _ _ (by omega)]
  have ra2 : RA (ap_r (hNw (ap_n h1 8 0 10) (ah_n h)) 0 4 (some (ah_n h))) 2 (m + 1) (ins Ro m R) := by
    obtain ⟨y1, y2, y3, y4⟩ := ra1
    refine ⟨by rw [ak_r, g.k _ (by omega)]; exact y1, by rw [az_r, g.z _ (by omega)]; exact y2, y3, fun n hn' => ?_⟩
    obtain ⟨q, q1, q2, q3⟩ := y4 n hn'
    obtain ⟨q', z1, z2⟩ := rl n hn'
    have e : q = q' := by rw [q1] at z1; injection z1
    subst e
    have q3' : q = 3 ∨ 70 ≤ q := q3
    exact ⟨q, by rw [ar_r, if_neg (by omega), g.r _ _ (by omega)]; exact q1, (q2.ag g z2).fv f2 (fun a k z => Or.inr (Or.inr z)) (fun _ _ _ z => z) q3, q3⟩
  have ra4 : RA (ap_i h3 0 13 (nI 0)) 2 (m + 1) (ins Ro m R) := (ra2.fv f3 (fun r p => s25_w p)).fr f4 fun q hq j k hj z => by
    have q3 : q = 3 ∨ 70 ≤ q := hq
    omega
  have hpl : rpl (ah_n h) := Or.inr n70
  have rs3 : RSh (ap_i h3 0 13 (nI 0)) (ah_n h) := ((hnf.1.fv f2 (fun a k z => Or.inr (Or.inr z)) hpl).fv f3 v32_0 hpl).fr f4
  have rc3 : RCo (ap_i h3 0 13 (nI 0)) (ah_n h) E0 := ((hnf.2.fv f2 (fun _ _ _ z => z)).fv f3 (s25_w hpl)).fr f4 fun j k hj z => by omega
  have g3 : GC (ap_i h3 0 13 (nI 0)) 19 (S'.1, S'.2.1, S'.2.2) := GC_fr (((GC_r (g1.ag g (by omega)) : GC (ap_r (hNw (ap_n h1 8 0 10) (ah_n h)) 0 4 (some (ah_n h))) 19 S').fv f3 fun a k z y => by have := z.1; have := z.2; unfold S25 at y; omega)) f4 fun a k z y => by have := z.1; omega
  have s0 := ss_0 c3.1
  have hn4 : ah_n h3 = ah_n h + 16 := f3.1.trans hnw.1
  have hu4 : ah_u h3 = ah_u h + 71 := by
    rw [f3.2.1]
    show ah_u (hNw (ap_n h1 8 0 10) (ah_n h)) = ah_u h + 71
    rw [hnw.2, u1]
  refine ⟨⟨⟨c3.1.fr f4, by show 70 ≤ ah_n h3; omega⟩, ?_, ⟨⟨?_, rs3, RCo_E rc3, by omega⟩, hpl, by show ah_n h + 15 < ah_n h3; omega⟩, ⟨ra4, ?_, fun n z1 z2 => ?_, fun n hn => ?_⟩, ⟨⟨_, g3⟩, ?_, ⟨x26, c26.1 |> fun _ => ?_⟩, b5, ?_⟩, ⟨⟨?_, ?_, g3.1.1, Or.inl ai_y⟩, fun i hi => ?_⟩, ?_⟩, fun o => ?_, hn4, hu4, fun a k z1 z2 => EI a k (by omega) (by omega) (by omega) (fun z => by unfold S25 at z; omega)⟩
  · have e : ∀ a k, a < 2 → ¬ (a = 0 ∧ (k = 3 ∨ k = 13)) → ah_i (ap_i h3 0 13 (nI 0)) a k = ah_i h a k := fun a k z1 z2 => (EI a k (by omega) (by omega) z2 (n25 a k (by omega))).1
    unfold PLC at *
    simp (disch := omega) only [e]
    exact c2
  · rw [ar_i, f3.cr (fun z => absurd (show 0 = 32 from z) (by decide)), ar_r, if_pos ⟨rfl, rfl⟩]
  · rw [f4.ci (by omega), f3.ci (n25 _ _ (by omega)), ai_r, g.i _ _ (by omega)]; exact m1
  · rw [E2, f1.k.2.2, ar_r, if_neg (by omega)]; exact b2 n (by omega) z2
  · rw [E2]; exact rl n hn
  · obtain ⟨x, a1⟩ := a1
    exact ⟨x, (((a1.ag g (by omega)).fv f2 fun _ z => z).fv f3 fun k z => by unfold S25 at z; omega).fr f4 fun k z => by omega⟩
  · have e26 : ∀ k, ah_i (ap_i h3 0 13 (nI 0)) 26 k = ah_i h 26 k := fun k => (EI 26 k (by omega) (by omega) (by omega) (n25 _ _ (by omega))).1
    obtain ⟨z1, z2, z3⟩ := c26
    refine ⟨?_, ?_, fun v hv => by rw [e26]; exact z3 v hv⟩
    · rw [ak_i, f3.2.2.1, ak_r, g.k _ (by omega), f1.k.1]; exact z1
    · rw [az_i, f3.2.2.2.1, az_r, g.z _ (by omega), f1.k.2.1]; exact z2
  · rw [(EI 23 5 (by omega) (by omega) (by omega) (n25 _ _ (by omega))).1]; exact g5
  · refine c3.fr f4 (fun a k z => ?_) (fun k z => by omega) (fun k z => by omega) (fun k z => by omega) (fun k z => by omega) (fun k z => by omega) (fun k z => by omega) (fun k z => by omega) (fun k z => by omega)
    rw [z.1, s0.1]; decide
  · obtain ⟨x1, x2, x3, x4, x5, x6⟩ := q2
    have e27 : ∀ k, ah_i (ap_i h3 0 13 (nI 0)) 27 k = ah_i h 27 k := fun k => (EI 27 k (by omega) (by omega) (by omega) (n25 _ _ (by omega))).1
    exact ⟨by rw [e27]; exact x1, by rw [e27]; exact x2, by rw [e27]; exact x3, Nat.lt_of_lt_of_le x4 (p2_le hA), Nat.lt_of_lt_of_le x5 (p2_le hA), Nat.lt_of_lt_of_le x6 (p2_le hA)⟩
  · rw [ar_i, r3 i hi, E2]
  · have e : ∀ a k, 28 ≤ a → a ≤ 30 → ah_i (ap_i h3 0 13 (nI 0)) a k = ah_i h a k := fun a k z1 z2 => (EI a k (by omega) (by omega) (by omega) (n25 a k (by omega))).1
    unfold PRF at *
    simp (disch := omega) only [e]
    exact c9
  · refine ⟨?_, ?_⟩
    · rw [ak_i, f3.2.2.1, ak_r, g.k _ (by omega), f1.k.1]; exact o.1
    · rw [az_i, f3.2.2.2.1, az_r, g.z _ (by omega), f1.k.2.1]; exact o.2
end OPS

