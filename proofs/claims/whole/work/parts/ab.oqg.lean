/-! CALLS OF BOTH SIDES: ENTER -/
section OPS
variable {sc : (Nat → Int32) × Nat} {h h' : AH} {np : Nat} {pl : Nat → Nat} {R : RW} {m : Nat} {Ro : Nat → RW} {A I : List Nat} {X T F pc : Nat} {pa pb : Nat → Nat} {r : Nat}
theorem MIVen {S' : gS} {q : Rs} (p : PIV np R m Ro A I X T F) (s : MIV h np pl R m Ro A I X T F pc pa pb) (hA : A.length ≤ S'.1.length) (t : M105 h m R Ro S' q h') : MIV h' np pl (clrR R) (m + 1) (ins Ro m R) S'.1 S'.2.1 X T F pc pa pb := by
  obtain ⟨_, f, g, rp, rr, t5, t27, _, mm⟩ := t
  have e : ∀ a j, 49 ≤ a → a ≤ 56 → a ≠ 51 → a ≠ 52 → a ≠ 53 → a ≠ 54 → (a = 49 → j = 2 ∨ j = 9 ∨ j = 12) → ah_i h' a j = ah_i h a j := fun a j h1 h2 h3 h4 h5 h6 h7 => f.ci fun z => by unfold S5 S12 SR3 SR2 SR1 at z; omega
  obtain ⟨s1, s2, s3, ⟨_, s4⟩, ⟨_, s6, _⟩, s8⟩ := s
  have pX := p.2.2.2.2.2.1
  have pT := p.2.2.2.2.2.2.1
  have pF := p.2.2.2.2.2.2.2
  refine ⟨?_, mm, ⟨rr, t5⟩, ⟨g, fun a ha xa => ?_⟩, ⟨rp, ⟨?_, Nat.lt_of_lt_of_le pX (p2_le hA), fun a ha => ?_⟩, Or.inl t27⟩, ?_⟩
  · unfold PLM at *
    simp (disch := omega) only [e]
    exact s1
  · have al : a < A.length := Nat.lt_of_not_le fun z => by rw [tb_ge pX z] at xa; exact Bool.noConfusion xa
    rw [e _ _ (by omega) (by omega) (by omega) (by omega) (by omega) (by omega) (by omega)]
    exact s4 a al xa
  · rw [e _ _ (by omega) (by omega) (by omega) (by omega) (by omega) (by omega) (by omega)]; exact s6.1
  · rw [e _ _ (by omega) (by omega) (by omega) (by omega) (by omega) (by omega) (by omega)]
    by_cases al : a < A.length
    · exact s6.2.2 a al
    · rw [tb_ge pT (by omega), tb_ge pF (by omega), tb_ge pX (by omega), Bool.false_and, Bool.false_and]
      exact ⟨rfl, rfl⟩
  · unfold PRM at *
    simp (disch := omega) only [e]
    exact s8
/-- 11: enter -/
theorem op_11 (iv : INVA h) : opI sc 260 105 [.ref 0, .ref 69] [.ref 49] h := by
  obtain ⟨np, pl, R, m, Ro, A, I, X, T, F, pc, pa, pb, r, p, c, s, o⟩ := iv
  have hp := c.1.1
  have n70 := c.1.2
  have W := fun Q => w_260 (sc := sc) (d := 59) (h := h) (Q := Q) hp
  have o6 := R_ok_mono p.1 p.2.1
  have ir := CIV.irs p
  have dr := c.2.2.1.1
  have lkf := lk_fr (h := h) (r := r) (R := R)
  have cL := c.lk p
  have sL : MIV (hLk h r R) np pl R m Ro A I X T F pc pa pb := by
    have r3 : r = 3 ∨ 70 ≤ r := c.2.2.1.2.1
    exact s.cl fun a k q1 q2 => ⟨lkf.ci fun z => by omega, lkf.cl fun z => by omega⟩
  have oL := o.fr lkf
  have lk := (hLk_ok (h := h) dr.2.2.1).1
  have nL : ah_n (hLk h r R) = ah_n h := lkf.1
  have uL : ah_u (hLk h r R) = ah_u h := lkf.2.1
  have m20 := p.2.2.1.1
  -- after a refusal: the reference refuses too
  have refd : ∀ (h1 : AH) (c1 : CIV h1 np pl R m Ro A I X T F pc pa pb r) (s1 : MIV h1 np pl R m Ro A I X T F pc pa pb) (o1 : OU h1), ah_n h1 = ah_n h → ah_u h1 = ah_u h → ∀ k, (¬ sfR R ∧ k = 1 ∨ sfR R ∧ m = 20 ∧ k = 2) → TC sc 60 105 [.ref 49] (ap_n h1 30 0 6) fun q2 h2 => (∃ b, q2 = .inl (some (.int b)) ∧ (k = 0 → ah_l h2 69 0 = b.toInt64)) ∧ INVA h2 ∧ ah_i h2 49 0 = nI k ∧ GRO h h2 := by
    intro h1 c1 s1 o1 n1 u1 k hk
    obtain ⟨c2, s2, o2, n2, u2⟩ := Q_mid p c1 s1 o1 (Or.inr rfl)
    refine TC_mono (m_105n (d := 39) c2.1.1 s2.2.1 o6 s2.2.2.1.2 m20 hk) ?_
    rintro q2 h2 ⟨rfl, f2, t0⟩
    refine ⟨⟨_, rfl, fun z => by omega⟩, ⟨np, pl, R, m, Ro, A, I, X, T, F, pc, pa, pb, r, p, c2.mo p (f2.mono fun a j z => by unfold S68 at z; omega), s2.fs ir f2, o2.fr f2⟩, t0, ?_, ?_⟩
    · rw [f2.1]; omega
    · rw [f2.2.1]; omega
  by_cases sf : sfR R
  · by_cases good : m < 20 ∧ (gal (ins Ro m R) (m + 1) 62 (A, I, true)).2.2 = true
    · obtain ⟨l, ok⟩ := good
      have o' : RsO (ins Ro m R) (m + 1) := ⟨by omega, fun n hn => by
        unfold ins
        by_cases w : n = m
        · rw [if_pos w]; exact o6
        · rw [if_neg w]; exact p.2.2.1.2 n (by omega)⟩
      have g0 := GV_ins (R := R) p.2.2.1 o' p.2.2.2.1
      have gv := GV_al (t := 62) o' g0
      have cl := GV_cl o' g0 ok
      have Xg := gal_x (ins Ro m R) (m + 1) 62 (A, I, true)
      generalize hS : gal (ins Ro m R) (m + 1) 62 (A, I, true) = S' at *
      have hA := Xg.len.1
      have hA : A.length ≤ S'.1.length := hA
      obtain ⟨⟨B, e1⟩, _, _⟩ := Xg
      have e1 : S'.1 = A ++ B := e1
      have ir' := irs_of o' gv
      have eS : S' = (S'.1, S'.2.1, true) := by rw [← ok]
      have E1 : ∀ z, exA A X z → exA S'.1 X z := exA_mono (fun k hk => ⟨by omega, by rw [e1, lat_app hk]⟩) fun _ q => q
      have p2 : PIV np (clrR R) (m + 1) (ins Ro m R) S'.1 S'.2.1 X T F := ⟨ok_clr R, p.2.1, o', by rw [← eS]; exact GV_E E1 gv, by rw [← eS]; exact cl, Nat.lt_of_lt_of_le p.2.2.2.2.2.1 (p2_le hA), Nat.lt_of_lt_of_le p.2.2.2.2.2.2.1 (p2_le hA), Nat.lt_of_lt_of_le p.2.2.2.2.2.2.2 (p2_le hA)⟩
      obtain ⟨b, gc⟩ := cL.2.2.2.2.1.1
      have D := d_12 (sc := sc) (d := 38) cL.1.1 cL.1.2 cL.2.2.2.1.1 cL.2.2.2.1.2.1 cL.2.2.1.1.1 (cL.2.2.2.1.2.2.1 m (Nat.le_refl _) l) ⟨cL.2.2.1.1.2.1, cL.2.2.1.1.2.2.1, lk, o6⟩ cL.2.2.1.2.1 cL.2.2.1.2.2 cL.2.2.2.1.2.2.2 gc cL.2.2.2.2.1.2.1 l hS ok ir'
      refine ⟨0, by omega, W _ ((d_12h (d := 38) hp dr c.2.2.1.2.1 o6).2 sf (TT_mono D ?_))⟩
      intro q h1 t
      obtain ⟨c2, ou, n2, u2, eq⟩ := CIVen p cL o6 l hA ok ir' lk t
      have s2 := sL.cl (h' := h1) fun a k q1 q2 => eq a k q1 (by omega)
      have f := @f69 h1 (nI m).toInt64
      have c3 := c2.mo p2 (f.mono fun a k z => by have : a = 69 := z; omega)
      have s3 := s2.cl (h' := ap_l h1 69 0 (nI m).toInt64) fun a j q1 q2 => ⟨f.ci fun z => by have : a = 69 := z; omega, f.cl fun z => by have : a = 69 := z; omega⟩
      refine ⟨ou oL, Or.inl ⟨_, t.1, rfl, TC_mono (m_105 (d := 39) c3.1.1 s3.2.1 o6 s3.2.2.1.2 l sf s3.2.2.1.1 s3.2.2.2.1.1 hS ok ir') ?_⟩⟩
      intro q2 h2 t2
      have s4 := MIVen p s3 hA t2
      have f2 := t2.2.1
      have n69 : ¬ (S5 m 69 0 ∨ S12 69 0 ∨ 69 = 51) := fun z => by unfold S5 S12 SR3 SR2 SR1 at z; omega
      refine ⟨⟨_, t2.1, fun _ => (f2.cl n69).trans l69⟩, ⟨np, pl, clrR R, m + 1, ins Ro m R, S'.1, S'.2.1, X, T, F, pc, pa, pb, ah_n (hLk h r R), p2, c3.mo p2 (f2.mono fun a j z => by unfold S5 S12 SR3 SR2 SR1 at z; omega), s4, ((ou oL).fr f).fr f2⟩, t2.2.2.2.2.2.2.2.1, ?_, ?_⟩
      · rw [f2.1, f.1, n2]; omega
      · rw [f2.2.1, f.2.1, u2]; omega
    · have bad : m = 20 ∨ m < 20 ∧ (gal (ins Ro m R) (m + 1) 62 (A, I, true)).2.2 = false := by
        by_cases l12 : m = 20
        · exact Or.inl l12
        · right
          refine ⟨by omega, ?_⟩
          cases q : (gal (ins Ro m R) (m + 1) 62 (A, I, true)).2.2
          · rfl
          · exact absurd ⟨by omega, q⟩ good
      obtain ⟨b, gc⟩ := cL.2.2.2.2.1.1
      have D := d_12r (sc := sc) (d := 38) cL.1.1 cL.2.2.2.1.1 cL.2.2.2.1.2.1 cL.2.2.1.1.1 (fun l => cL.2.2.2.1.2.2.1 m (Nat.le_refl _) l) ⟨cL.2.2.1.1.2.1, cL.2.2.1.1.2.2.1, lk, o6⟩ cL.2.2.1.2.1 gc cL.2.2.2.2.1.2.1 bad
      refine ⟨2, by omega, W _ ((d_12h (d := 38) hp dr c.2.2.1.2.1 o6).2 sf (TT_mono D ?_))⟩
      rintro q hx ⟨rfl, h1, f1, g1, a1, rfl⟩
      have c1 := cL.sg p f1 g1 a1
      have s1 := sL.cl (h' := h1) fun a j q1 q2 => ⟨f1.ci fun z => by have := z.2; omega, f1.cl fun z => by have := z.2; omega⟩
      obtain ⟨c2, s2, o2, n2, u2⟩ := Q_mid p c1 s1 (oL.fr f1) (Or.inr rfl)
      refine ⟨o2, Or.inr (wpX_of (k := 2) (by omega) (by omega) ⟨rfl, ?_⟩)⟩
      rcases bad with m20' | ⟨l, no⟩
      · exact refd h1 c1 s1 (oL.fr f1) (f1.1.trans nL) (f1.2.1.trans uL) 2 (Or.inr ⟨sf, m20', rfl⟩)
      · have o' : RsO (ins Ro m R) (m + 1) := ⟨by omega, fun n hn => by
          unfold ins
          by_cases w : n = m
          · rw [if_pos w]; exact o6
          · rw [if_neg w]; exact p.2.2.1.2 n (by omega)⟩
        have gv := GV_al (t := 62) o' (GV_ins (R := R) p.2.2.1 o' p.2.2.2.1)
        refine TC_mono (m_105f (d := 39) c2.1.1 s2.2.1 o6 s2.2.2.1.2 l sf s2.2.2.1.1 s2.2.2.2.1.1 rfl no gv.1.1) ?_
        rintro q2 h2 ⟨rfl, f2, g2, t5, t0⟩
        have s3 := s2.s3 ir f2 g2 t5
        refine ⟨⟨_, rfl, fun z => absurd z (by omega)⟩, ⟨np, pl, R, m, Ro, A, I, X, T, F, pc, pa, pb, r, p, c2.mo p (f2.mono fun a j z => by unfold S5 SR3 SR2 SR1 at z; omega), s3, o2.fr f2⟩, t0, ?_, ?_⟩
        · rw [f2.1]; have := f1.1; omega
        · rw [f2.2.1]; have := f1.2.1; omega
  · refine ⟨1, by omega, W _ ((d_12h (d := 38) hp dr c.2.2.1.2.1 o6).1 sf ?_)⟩
    refine ⟨oL.ag (AG_th _) cL.1.2, Or.inr (wpX_of (k := 1) (by omega) (by omega) ⟨rfl, refd (hLk h r R) cL sL oL nL uL 1 (Or.inl ⟨sf, rfl⟩)⟩)⟩
end OPS
