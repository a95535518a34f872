/-! CALLS OF BOTH SIDES: EXTERNAL -/
section OPS
variable {sc : (Nat → Int32) × Nat} {h h' : AH} {np : Nat} {pl : Nat → Nat} {R : RW} {m : Nat} {Ro : Nat → RW} {A I : List Nat} {X T F pc : Nat} {pa pb : Nat → Nat} {r : Nat}
theorem CIV.sg (p : PIV np R m Ro A I X T F) (c : CIV h np pl R m Ro A I X T F pc pa pb r) (f : FR h h' (SG 19)) (g : ∃ b, GC h' 19 (A, I, b)) (a : ∃ c, CA h' 22 c) : CIV h' np pl R m Ro A I X T F pc pa pb r := by
  have fv := f.v fun _ _ => False
  have nn : ∀ a k, (a < 19 ∨ 22 < a) → ¬ SG 19 a k := fun a k h1 z => by have := z.1; have := z.2; omega
  obtain ⟨⟨c1, n70⟩, c2, ⟨d, c4, c5⟩, c6, ⟨_, _, ⟨x26, c26⟩, b5, g5⟩, c8, c9⟩ := c
  have r3 : r = 3 ∨ 70 ≤ r := c4
  have q : ∀ q, rpl q → q + 15 < r → ∀ j k, j < 16 → ¬ SG 19 (q + j) k := fun q hq _ j k hj => by
    have q3 : q = 3 ∨ 70 ≤ q := hq
    exact nn _ _ (by omega)
  obtain ⟨b, g⟩ := g
  refine ⟨⟨c1.fr f, by rw [f.1]; exact n70⟩, c2.fv fv (nn _ _ (by omega)) (fun k => nn _ _ (by omega)), ⟨d.fv fv (fun _ _ z => z.elim) (fun j k hj => nn _ _ (by omega)) c4, c4, by rw [f.1]; exact c5⟩, c6.fv fv (fun _ _ z => z.elim) (nn _ _ (by omega)) q, ⟨⟨b, g⟩, a, ⟨x26, c26.fr f fun k => nn 26 k (by omega)⟩, b5, by rw [f.ci (nn 23 5 (by omega))]; exact g5⟩, ⟨⟨?_, ?_, g.1.1, ?_⟩, fun i hi => by rw [f.k.2.2, f.k.2.2]; exact c8.2 i hi⟩, c9.fv fv fun a k h1 h2 => nn a k (by omega)⟩
  · have s19 := ss_19 c1
    refine c8.1.1.fr f (fun a k z => ?_) (fun k => nn _ _ (by omega)) (fun k => nn _ _ (by omega)) (fun k => nn _ _ (by omega)) (fun k => nn _ _ (by omega)) (fun k => nn _ _ (by omega)) (fun k => nn _ _ (by omega)) (fun k => nn _ _ (by omega)) (fun k => nn _ _ (by omega))
    have z1 := z.1
    have z2 := z.2
    have : a = 19 ∨ a = 20 ∨ a = 21 ∨ a = 22 := by omega
    rcases this with rfl | rfl | rfl | rfl <;> simp only [s19] <;> decide
  · have := c8.1.2.1
    unfold EX at *
    rw [f.ci (nn _ _ (by omega)), f.ci (nn _ _ (by omega)), f.ci (nn _ _ (by omega))]
    exact this
  · exact c8.1.2.2.2.fv fv (fun k _ => nn _ _ (by omega)) (fun k => nn _ _ (by omega)) (fun k => nn _ _ (by omega))
theorem MIV.s3 (s : MIV h np pl R m Ro A I X T F pc pa pb) (ir : irs Ro m A I) (f : FR h h' fun a k => SR3 a k ∨ a = 52 ∧ 73 * m ≤ k) (g : MG h' A I) (t : ah_i h' 49 5 = nI m) : MIV h' np pl R m Ro A I X T F pc pa pb := by
  have e : ∀ a k, 49 ≤ a → a ≤ 67 → a ≠ 52 → a ≠ 53 → a ≠ 54 → a ≠ 57 → a ≠ 58 → a ≠ 64 → (a = 49 → k = 2 ∨ k = 9 ∨ k = 12 ∨ k = 26 ∨ k = 27) → ah_i h' a k = ah_i h a k := fun a k h1 h2 h3 h4 h5 h6 h7 h8 h9 => f.ci fun z => by unfold SR3 SR2 SR1 at z; omega
  have e52 : ∀ k, k < 73 * m → ah_i h' 52 k = ah_i h 52 k := fun k hk => f.ci fun z => by unfold SR3 SR2 SR1 at z; omega
  have el : ∀ k, ah_l h' 63 k = ah_l h 63 k := fun k => f.cl fun z => by unfold SR3 SR2 SR1 at z; omega
  obtain ⟨s1, s2, ⟨s3, _⟩, ⟨_, s4⟩, ⟨s5, s6, s7⟩, s8⟩ := s
  have rr : RR h' m Ro := ⟨s3.1, fun n hn => ⟨by
    have := (s3.2 n hn).1
    have ee : ∀ k, k < 73 → ah_i h' 52 (73 * n + k) = ah_i h 52 (73 * n + k) := fun k hk => e52 _ (by omega)
    have o := (s3.2 n hn).2
    obtain ⟨m1, m2, m3, m4, m5, m6, m7, m8⟩ := this
    have l3 := o.2.1
    have l4 := o.2.2.1
    refine ⟨by rw [e52 _ (by omega)]; exact m1, fun j hj => by rw [e52 _ (by omega)]; exact m2 j hj, fun l hl => ?_, fun v hv => ?_, by rw [e52 _ (by omega)]; exact m5, fun q => by rw [e52 _ (by omega), e52 _ (by omega)]; exact m6 q, by rw [e52 _ (by omega)]; exact m7, fun k hk => ?_⟩
    · have := l3 l hl
      rw [e52 _ (by omega)]
      refine ⟨(m3 l hl).1, fun k hk => ?_⟩
      rw [e52 _ (by omega), e52 _ (by omega), e52 _ (by omega)]
      exact (m3 l hl).2 k hk
    · rw [e52 _ (by omega), e52 _ (by omega)]; exact m4 v hv
    · rw [e52 _ (by omega), e52 _ (by omega), e52 _ (by omega), e52 _ (by omega)]; exact m8 k hk, (s3.2 n hn).2⟩⟩
  refine ⟨?_, s2.c fun j => e 51 j (by omega) (by omega) (by omega) (by omega) (by omega) (by omega) (by omega) (by omega) (by omega), ⟨rr, t⟩, ⟨g, ?_⟩, ⟨?_, ?_, ?_⟩, ?_⟩
  · unfold PLM at *
    simp (disch := omega) only [e]
    exact s1
  · unfold HWK at *
    simp (disch := omega) only [e]
    exact s4
  · obtain ⟨p1, p2, p3⟩ := s5
    refine ⟨g.1.1, g.2.1, fun i hi => ?_⟩
    obtain ⟨_, v1, v2, v3, v4, v5⟩ := p3 i hi
    obtain ⟨hn, _⟩ := ir i hi
    have r1 := (rr.2 _ hn).1
    obtain ⟨t1, t2, t3⟩ := g.2.2.2 i hi
    refine ⟨⟨irl I i, by have := s3.1; omega, t1, r1.1, fun _ j hj => r1.2.1 j hj, fun q => r1.2.2.2.2.2.1 q⟩, by rw [e _ _ (by omega) (by omega) (by omega) (by omega) (by omega) (by omega) (by omega) (by omega) (by omega)]; exact v1, by rw [e _ _ (by omega) (by omega) (by omega) (by omega) (by omega) (by omega) (by omega) (by omega) (by omega)]; exact v2, by rw [e _ _ (by omega) (by omega) (by omega) (by omega) (by omega) (by omega) (by omega) (by omega) (by omega)]; exact v3, by rw [e _ _ (by omega) (by omega) (by omega) (by omega) (by omega) (by omega) (by omega) (by omega) (by omega)]; exact v4, fun q a ha => by rw [el]; exact v5 q a ha⟩
  · unfold RMX at *
    simp (disch := omega) only [e]
    exact s6
  · unfold MCS MSR at *
    simp (disch := omega) only [e]
    exact s7
  · unfold PRM at *
    simp (disch := omega) only [e]
    exact s8
theorem exA_mono {A A' : List Nat} {X X' : Nat} (hA : ∀ k, k < A.length → k < A'.length ∧ lat A' k = lat A k) (hX : ∀ k, X.testBit k = true → X'.testBit k = true) : ∀ x, exA A X x → exA A' X' x := fun x ⟨k, h1, h2, h3⟩ => ⟨k, (hA k h1).1, hX k h2, by rw [(hA k h1).2]; exact h3⟩
/-- an external more, in the class -/
theorem CIV.x {A' I' : List Nat} {k : Nat} {b : Bool} (p : PIV np R m Ro A I X T F) (c : CIV h np pl R m Ro A I X T F pc pa pb r) (hA : A.length ≤ A'.length) (hk : k < A'.length) (f : FV h h' S13 V32) (g : GC h' 19 (A', I', b)) (a : ∃ c, CA h' 22 c) (cp : CP h' (PGo Ro A' I')) (rf : ∀ i, i < I'.length → ah_r h' 32 i = ah_r h 2 (irl I' i)) (x0 : ah_i h' 27 0 = nI (X ||| 2 ^ k)) (cs : CSH h' (PGo Ro A' I') T F) : CIV h' np pl R m Ro A' I' (X ||| 2 ^ k) T F pc pa pb r := by
  have nn : ∀ a k, a ≠ 27 → (a = 0 → k ≠ 13) → (a < 19 ∨ 22 < a) → (a < 31 ∨ 42 < a) → ¬ S13 a k := fun a k h1 h2 h3 h4 z => by unfold S13 SG S25 at z; omega
  obtain ⟨⟨c1, n70⟩, c2, ⟨d, c4, c5⟩, c6, ⟨_, _, ⟨x26, c26⟩, b5, g5⟩, c8, c9⟩ := c
  have r3 : r = 3 ∨ 70 ≤ r := c4
  have q : ∀ q, rpl q → q + 15 < r → ∀ j k, j < 16 → ¬ S13 (q + j) k := fun q hq _ j k hj => by
    have q3 : q = 3 ∨ 70 ≤ q := hq
    exact nn _ _ (by omega) (by omega) (by omega) (by omega)
  have xl : X ||| 2 ^ k < 2 ^ A'.length := or_lt (Nat.lt_of_lt_of_le p.2.2.2.2.2.1 (p2_le hA)) (p2_lt hk)
  refine ⟨⟨cp.1, by rw [f.1]; exact n70⟩, c2.fv f (nn _ _ (by omega) (by omega) (by omega) (by omega)) (fun k => nn _ _ (by omega) (by omega) (by omega) (by omega)), ⟨d.fv f (fun a k z => Or.inl z) (fun j k hj => nn _ _ (by omega) (by omega) (by omega) (by omega)) c4, c4, by rw [f.1]; exact c5⟩, c6.fv f (fun _ _ z => z) (nn _ _ (by omega) (by omega) (by omega) (by omega)) q, ⟨⟨b, g⟩, a, ⟨x26, c26.fv f fun k => nn 26 k (by omega) (by omega) (by omega) (by omega)⟩, b5, by rw [f.ci (nn 23 5 (by omega) (by omega) (by omega) (by omega))]; exact g5⟩, ⟨⟨cp, ?_, g.1.1, cs⟩, fun i hi => ?_⟩, c9.fv f fun a k h1 h2 => nn a k (by omega) (by omega) (by omega) (by omega)⟩
  · obtain ⟨x1, x2, x3, x4, x5, x6⟩ := c8.1.2.1
    exact ⟨x0, by rw [f.ci (fun z => by unfold S13 SG S25 at z; omega)]; exact x2, by rw [f.ci (fun z => by unfold S13 SG S25 at z; omega)]; exact x3, xl, Nat.lt_of_lt_of_le x5 (p2_le hA), Nat.lt_of_lt_of_le x6 (p2_le hA)⟩
  · rw [rf i hi]
    exact (f.cr (fun z => absurd (show 2 = 32 from z) (by decide))).symm
/-- and in the reference -/
theorem MIV.x {A' I' : List Nat} {k : Nat} {q : Rs} (p : PIV np R m Ro A I X T F) (s : MIV h np pl R m Ro A I X T F pc pa pb) (hA : A.length ≤ A'.length) (hk : k < A'.length) (t : M107 h Ro X k A' I' q h') : MIV h' np pl R m Ro A' I' (X ||| 2 ^ k) T F pc pa pb := by
  obtain ⟨_, f, g, rp, x9, _, t27, w⟩ := t
  have e : ∀ a j, 49 ≤ a → a ≤ 56 → a ≠ 53 → a ≠ 54 → (a = 55 → j ≠ k) → (a = 49 → j = 2 ∨ j = 5 ∨ j = 12) → ah_i h' a j = ah_i h a j := fun a j h1 h2 h3 h4 h5 h6 => f.ci fun z => by unfold SXm S12 SR2 SR1 at z; omega
  obtain ⟨s1, s2, ⟨s3, s3b⟩, ⟨_, s4⟩, ⟨_, s6, _⟩, s8⟩ := s
  have pX := p.2.2.2.2.2.1
  have pT := p.2.2.2.2.2.2.1
  have pF := p.2.2.2.2.2.2.2
  have xt : ∀ a, (X ||| 2 ^ k).testBit a = (X.testBit a || decide (k = a)) := fun a => by rw [Nat.testBit_or, tb_pow]
  refine ⟨?_, s2.c fun j => e 51 j (by omega) (by omega) (by omega) (by omega) (by omega) (by omega), ⟨s3.fr f fun j z => by unfold SXm S12 SR2 SR1 at z; omega, by rw [e _ _ (by omega) (by omega) (by omega) (by omega) (by omega) (by omega)]; exact s3b⟩, ⟨g, fun a ha xa => ?_⟩, ⟨rp, ⟨x9, or_lt (Nat.lt_of_lt_of_le pX (p2_le hA)) (p2_lt hk), fun a ha => ?_⟩, Or.inl t27⟩, ?_⟩
  · unfold PLM at *
    simp (disch := omega) only [e]
    exact s1
  · rw [xt, Bool.or_eq_true, decide_eq_true_eq] at xa
    by_cases q : k = a
    · subst q
      rw [w]
      by_cases y : X.testBit k = true
      · rw [if_pos y]
        have kl : k < A.length := Nat.lt_of_not_le fun z => by rw [tb_ge pX z] at y; exact Bool.noConfusion y
        exact s4 k kl y
      · rw [if_neg y]; exact Or.inl rfl
    · have y := xa.resolve_right q
      have al : a < A.length := Nat.lt_of_not_le fun z => by rw [tb_ge pX z] at y; exact Bool.noConfusion y
      rw [e _ _ (by omega) (by omega) (by omega) (by omega) (by omega) (by omega)]
      exact s4 a al y
  · rw [xt]
    have old : a < A.length → T.testBit a = (X.testBit a && decide (ah_i h 55 a = nI 1)) ∧ F.testBit a = (X.testBit a && decide (ah_i h 55 a = nI 2)) := s6.2.2 a
    by_cases q : k = a
    · subst q
      rw [w, decide_eq_true rfl, Bool.or_true, Bool.true_and, Bool.true_and]
      cases y : X.testBit k
      · have tz : T.testBit k = false ∧ F.testBit k = false := by
          by_cases kl : k < A.length
          · have := old kl
            rw [y, Bool.false_and, Bool.false_and] at this
            exact this
          · exact ⟨tb_ge pT (by omega), tb_ge pF (by omega)⟩
        rw [tz.1, tz.2, if_neg (by simp)]
        decide
      · have kl : k < A.length := Nat.lt_of_not_le fun z => by rw [tb_ge pX z] at y; exact Bool.noConfusion y
        have := old kl
        rw [y, Bool.true_and, Bool.true_and] at this
        rw [if_pos rfl]; exact this
    · rw [decide_eq_false q, Bool.or_false, e _ _ (by omega) (by omega) (by omega) (by omega) (by omega) (by omega)]
      by_cases al : a < A.length
      · exact old al
      · rw [tb_ge pT (by omega), tb_ge pF (by omega), tb_ge pX (by omega), Bool.false_and, Bool.false_and]
        exact ⟨rfl, rfl⟩
  · unfold PRM at *
    simp (disch := omega) only [e]
    exact s8
end OPS
