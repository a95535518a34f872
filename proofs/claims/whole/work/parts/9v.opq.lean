/-! CALLS OF BOTH SIDES: THE QUESTIONS -/
section OPS
variable {sc : (Nat → Int32) × Nat} {h h1 h2 : AH} {np : Nat} {pl : Nat → Nat} {R : RW} {m : Nat} {Ro : Nat → RW} {A I : List Nat} {X T F pc : Nat} {pa pb : Nat → Nat} {r : Nat}
theorem MIV.cl {h' : AH} (s : MIV h np pl R m Ro A I X T F pc pa pb) (g : ∀ a k, 49 ≤ a → a ≤ 68 → ah_i h' a k = ah_i h a k ∧ ah_l h' a k = ah_l h a k) : MIV h' np pl R m Ro A I X T F pc pa pb :=
  s.am (fun a k h1 h2 _ _ => g a k h1 h2) (s.2.1.c fun j => (g 51 j (by omega) (by omega)).1)
theorem MIV.sm {h' : AH} (s : MIV h np pl R m Ro A I X T F pc pa pb) (f : FR h h' SM) (q : MQS h' (PGo Ro A I) X T F) : MIV h' np pl R m Ro A I X T F pc pa pb := by
  have e : ∀ a k, 49 ≤ a → a < 65 → (a = 49 → k = 2 ∨ k = 5 ∨ k = 7 ∨ k = 15 ∨ k = 12) → ah_i h' a k = ah_i h a k := fun a k h1 h2 h3 => f.ci fun z => by unfold SM at z; omega
  obtain ⟨s1, s2, s3, s4, _, s6⟩ := s
  refine ⟨?_, s2.c fun j => e 51 j (by omega) (by omega) (fun z => absurd z (by decide)), ?_, ?_, ⟨q.1.2.1, q.2.1, q.2.2.2.2⟩, ?_⟩
  · unfold PLM at *
    simp (disch := omega) only [e]
    exact s1
  · refine ⟨s3.1.fr f fun k z => by unfold SM at z; omega, by rw [e _ _ (by omega) (by omega) (by omega)]; exact s3.2⟩
  · unfold MG HWK at *
    simp (disch := omega) only [e]
    exact s4
  · unfold PRM at *
    simp (disch := omega) only [e]
    exact s6
theorem CIV.q (c : CIV h np pl R m Ro A I X T F pc pa pb r) (rq : RQ h (PGo Ro A I) X T F h1) : CIV h1 np pl R m Ro A I X T F pc pa pb r := by
  obtain ⟨f, q⟩ := rq
  have fv := f.v fun _ _ => False
  obtain ⟨⟨c1, n70⟩, c2, ⟨d, c4, c5⟩, c6, c7, c8, c9⟩ := c
  have nn : ∀ a k, (a ≠ 0 ∨ k < 13) → a ≠ 44 → a ≠ 46 → a ≠ 47 → a ≠ 48 → ¬ SQ a k := fun a k h1 h2 h3 h4 h5 z => by unfold SQ S46 at z; omega
  have r3 : r = 3 ∨ 70 ≤ r := c4
  refine ⟨⟨c1.fr f, by rw [f.1]; exact n70⟩, c2.fv fv (nn _ _ (by omega) (by omega) (by omega) (by omega) (by omega)) (fun k => nn _ _ (by omega) (by omega) (by omega) (by omega) (by omega)), ⟨d.fv fv (fun _ _ z => z.elim) (fun j k hj => nn _ _ (by omega) (by omega) (by omega) (by omega) (by omega)) c4, c4, by rw [f.1]; exact c5⟩, c6.fv fv (fun _ _ z => z.elim) (nn _ _ (by omega) (by omega) (by omega) (by omega) (by omega)) (fun q hq _ j k hj => by
    have q3 : q = 3 ∨ 70 ≤ q := hq
    exact nn _ _ (by omega) (by omega) (by omega) (by omega) (by omega)), c7.fv fv (fun a k h1 h2 => nn a k (by omega) (by omega) (by omega) (by omega) (by omega)), ⟨q, fun i hi => by rw [f.k.2.2, f.k.2.2]; exact c8.2 i hi⟩, c9.fv fv fun a k h1 h2 => nn a k (by omega) (by omega) (by omega) (by omega) (by omega)⟩
theorem MIV.rq (s : MIV h np pl R m Ro A I X T F pc pa pb) {P : PG} (rq : RQ h P X T F h1) : MIV h1 np pl R m Ro A I X T F pc pa pb := s.cl fun a k q1 q2 => by
  have n : ¬ SQ a k := fun z => by unfold SQ S46 at z; omega
  exact ⟨rq.1.ci n, rq.1.cl n⟩
/-- the model's state at the second call, and what holds after it -/
theorem Q_mid (p : PIV np R m Ro A I X T F) (c : CIV h np pl R m Ro A I X T F pc pa pb r) (s : MIV h np pl R m Ro A I X T F pc pa pb) (o : OU h) (ff : FR h h1 S69 ∨ h1 = ap_n h 30 0 6) : CIV h1 np pl R m Ro A I X T F pc pa pb r ∧ MIV h1 np pl R m Ro A I X T F pc pa pb ∧ OU h1 ∧ ah_n h1 ≤ ah_n h + 1 ∧ ah_u h1 ≤ ah_u h + 6 := by
  rcases ff with f | rfl
  · exact ⟨c.mo p (f.mono fun a k z => by have : a = 69 := z; omega), s.cl (fun a k q1 q2 => ⟨f.ci fun z => by have : a = 69 := z; omega, f.cl fun z => by have : a = 69 := z; omega⟩), o.fr f, by rw [f.1]; omega, by rw [f.2.1]; omega⟩
  · have g := AG_th h
    have n70 := c.1.2
    exact ⟨c.ag g (Nat.le_succ _), s.cl fun a k q1 q2 => ⟨g.i _ _ (by omega), g.l _ _ (by omega)⟩, o.ag g n70, Nat.le_refl _, Nat.le_refl _⟩
theorem MIV.mq (p : PIV np R m Ro A I X T F) (c : CIV h np pl R m Ro A I X T F pc pa pb r) (s : MIV h np pl R m Ro A I X T F pc pa pb) : MQS h (PGo Ro A I) X T F := s.q c.1.1 p.ok p.2.2.2.2.2.2.1 p.2.2.2.2.2.2.2
theorem Q_end (p : PIV np R m Ro A I X T F) (c : CIV h np pl R m Ro A I X T F pc pa pb r) (s : MIV h np pl R m Ro A I X T F pc pa pb) (o : OU h) {th : Nat} (rm : RM h (PGo Ro A I) X T F th h2) : INVA h2 ∧ ah_i h2 49 0 = nI th ∧ ah_n h2 = ah_n h ∧ ah_u h2 = ah_u h := by
  obtain ⟨f, q, t⟩ := rm
  exact ⟨⟨np, pl, R, m, Ro, A, I, X, T, F, pc, pa, pb, r, p, c.mo p (f.mono fun a k z => by unfold SM at z; omega), s.sm f q, o.fr f⟩, t, f.1, f.2.1⟩
theorem opI_q {w mm cm a b e : Nat} {wa ma ca : List Value} {G : Int32 → Prop} (p : PIV np R m Ro A I X T F) (c : CIV h np pl R m Ro A I X T F pc pa pb r) (s : MIV h np pl R m Ro A I X T F pc pa pb) (o : OU h) (W : ∀ Q : Rs → AH → Prop, TC sc 59 cm ca h (wpI Q a b e) → TC sc 60 w wa h Q)
    (C : TC sc 59 cm ca h fun q h' => RQ h (PGo Ro A I) X T F h' ∧ ∃ v, q = .inl (some (.int v)) ∧ G v) (M : ∀ h1, MQS h1 (PGo Ro A I) X T F → PRM h1 pc pa pb → TC sc 60 mm ma h1 fun q h' => RM h1 (PGo Ro A I) X T F 0 h' ∧ ∃ v, q = .inl (some (.int v)) ∧ G v) (u : ∀ v v', G v → G v' → v = v') : opI sc w mm wa ma h := by
  refine ⟨0, by omega, W _ (TC_mono C ?_)⟩
  rintro q h1 ⟨rq, v, rfl, gv⟩
  have f := @f69 h1 v.toInt64
  obtain ⟨c2, s2, o2, n2, u2⟩ := Q_mid p (c.q rq) (s.rq rq) (o.fr rq.1) (Or.inl f)
  refine ⟨o.fr rq.1, Or.inl ⟨v, rfl, rfl, TC_mono (M _ (MIV.mq p c2 s2) s2.2.2.2.2.2) ?_⟩⟩
  rintro q2 h2 ⟨rm, v2, rfl, gv2⟩
  obtain ⟨i, t, n3, u3⟩ := Q_end p c2 s2 o2 rm
  refine ⟨⟨v2, rfl, fun _ => ?_⟩, i, t, ?_, ?_⟩
  · rw [u _ _ gv2 gv]
    exact (rm.1.cl fun z => by unfold SM at z; omega).trans l69
  · rw [n3]; have := rq.1.1; omega
  · rw [u3]; have := rq.1.2.1; omega
theorem opL_q {w mm cm a b e : Nat} {wa ma ca : List Value} {G : Int64 → Prop} (p : PIV np R m Ro A I X T F) (c : CIV h np pl R m Ro A I X T F pc pa pb r) (s : MIV h np pl R m Ro A I X T F pc pa pb) (o : OU h) (W : ∀ Q : Rs → AH → Prop, TC sc 59 cm ca h (wpL Q a b e) → TC sc 60 w wa h Q)
    (C : TC sc 59 cm ca h fun q h' => RQ h (PGo Ro A I) X T F h' ∧ ∃ v, q = .inl (some (.long v)) ∧ G v) (M : ∀ h1, MQS h1 (PGo Ro A I) X T F → PRM h1 pc pa pb → TC sc 60 mm ma h1 fun q h' => RM h1 (PGo Ro A I) X T F 0 h' ∧ ∃ v, q = .inl (some (.long v)) ∧ G v) (u : ∀ v v', G v → G v' → v = v') : opL sc w mm wa ma h := by
  refine ⟨0, by omega, W _ (TC_mono C ?_)⟩
  rintro q h1 ⟨rq, v, rfl, gv⟩
  have f := @f69 h1 v
  obtain ⟨c2, s2, o2, n2, u2⟩ := Q_mid p (c.q rq) (s.rq rq) (o.fr rq.1) (Or.inl f)
  refine ⟨o.fr rq.1, Or.inl ⟨v, rfl, rfl, TC_mono (M _ (MIV.mq p c2 s2) s2.2.2.2.2.2) ?_⟩⟩
  rintro q2 h2 ⟨rm, v2, rfl, gv2⟩
  obtain ⟨i, t, n3, u3⟩ := Q_end p c2 s2 o2 rm
  refine ⟨⟨v2, rfl, fun _ => ?_⟩, i, t, ?_, ?_⟩
  · rw [u _ _ gv2 gv]
    exact (rm.1.cl fun z => by unfold SM at z; omega).trans l69
  · rw [n3]; have := rq.1.1; omega
  · rw [u3]; have := rq.1.2.1; omega
theorem opN_q {mm cm : Nat} {v : Int32} (p : PIV np R m Ro A I X T F) (c : CIV h np pl R m Ro A I X T F pc pa pb r) (s : MIV h np pl R m Ro A I X T F pc pa pb) (o : OU h)
    (C : TC sc 60 cm [.ref 0] h fun q h' => RQ h (PGo Ro A I) X T F h' ∧ q = .inl (some (.int v))) (M : ∀ h1, MQS h1 (PGo Ro A I) X T F → PRM h1 pc pa pb → TC sc 60 mm [.ref 49] h1 fun q h' => RM h1 (PGo Ro A I) X T F 0 h' ∧ q = .inl (some (.int v))) : opN sc cm mm h := by
  refine ⟨v, TC_mono C ?_⟩
  rintro q h1 ⟨rq, rfl⟩
  obtain ⟨c2, s2, o2, n2, u2⟩ := Q_mid p (c.q rq) (s.rq rq) (o.fr rq.1) (Or.inl (FR.refl _ _))
  refine ⟨rfl, TC_mono (M _ (MIV.mq p c2 s2) s2.2.2.2.2.2) ?_⟩
  rintro q2 h2 ⟨rm, rfl⟩
  obtain ⟨i, t, n3, u3⟩ := Q_end p c2 s2 o2 rm
  refine ⟨rfl, i, ?_, ?_⟩
  · rw [n3]; have := rq.1.1; omega
  · rw [u3]; have := rq.1.2.1; omega
theorem opI_qr {w mm cm a b e E : Nat} {wa ma ca : List Value} (p : PIV np R m Ro A I X T F) (c : CIV h np pl R m Ro A I X T F pc pa pb r) (s : MIV h np pl R m Ro A I X T F pc pa pb) (o : OU h) (W : ∀ Q : Rs → AH → Prop, TC sc 59 cm ca h (wpI Q a b e) → TC sc 60 w wa h Q) (cd : E = 0 ∧ a = 1 ∨ E = 1 ∧ b = 1 ∨ E = 2 ∧ e = 1)
    (C : TC sc 59 cm ca h fun q h' => THR E q h' (RQ h (PGo Ro A I) X T F)) (M : ∀ h1, MQS h1 (PGo Ro A I) X T F → TC sc 60 mm ma h1 fun q h' => (∃ v, q = .inl (some (.int v))) ∧ RM h1 (PGo Ro A I) X T F 1 h') : opI sc w mm wa ma h := by
  refine ⟨1, by omega, W _ (TC_mono C ?_)⟩
  rintro q h1' ⟨rfl, h1, rq, rfl⟩
  obtain ⟨c2, s2, o2, n2, u2⟩ := Q_mid p (c.q rq) (s.rq rq) (o.fr rq.1) (Or.inr rfl)
  refine ⟨o2, Or.inr (wpX_of (k := 1) (by omega) cd ⟨rfl, TC_mono (M _ (MIV.mq p c2 s2)) ?_⟩)⟩
  rintro q2 h2 ⟨⟨v, rfl⟩, rm⟩
  obtain ⟨i, t, n3, u3⟩ := Q_end p c2 s2 o2 rm
  refine ⟨⟨v, rfl, fun z => absurd z (by omega)⟩, i, t, ?_, ?_⟩
  · rw [n3]; have := rq.1.1; omega
  · rw [u3]; have := rq.1.2.1; omega
theorem opL_qr {w mm cm a b e E : Nat} {wa ma ca : List Value} (p : PIV np R m Ro A I X T F) (c : CIV h np pl R m Ro A I X T F pc pa pb r) (s : MIV h np pl R m Ro A I X T F pc pa pb) (o : OU h) (W : ∀ Q : Rs → AH → Prop, TC sc 59 cm ca h (wpL Q a b e) → TC sc 60 w wa h Q) (cd : E = 0 ∧ a = 1 ∨ E = 1 ∧ b = 1 ∨ E = 2 ∧ e = 1)
    (C : TC sc 59 cm ca h fun q h' => THR E q h' (RQ h (PGo Ro A I) X T F)) (M : ∀ h1, MQS h1 (PGo Ro A I) X T F → TC sc 60 mm ma h1 fun q h' => (∃ v, q = .inl (some (.long v))) ∧ RM h1 (PGo Ro A I) X T F 1 h') : opL sc w mm wa ma h := by
  refine ⟨1, by omega, W _ (TC_mono C ?_)⟩
  rintro q h1' ⟨rfl, h1, rq, rfl⟩
  obtain ⟨c2, s2, o2, n2, u2⟩ := Q_mid p (c.q rq) (s.rq rq) (o.fr rq.1) (Or.inr rfl)
  refine ⟨o2, Or.inr (wpX_of (k := 1) (by omega) cd ⟨rfl, TC_mono (M _ (MIV.mq p c2 s2)) ?_⟩)⟩
  rintro q2 h2 ⟨⟨v, rfl⟩, rm⟩
  obtain ⟨i, t, n3, u3⟩ := Q_end p c2 s2 o2 rm
  refine ⟨⟨v, rfl, fun z => absurd z (by omega)⟩, i, t, ?_, ?_⟩
  · rw [n3]; have := rq.1.1; omega
  · rw [u3]; have := rq.1.2.1; omega
end OPS
