/-! WHAT HOLDS BETWEEN TWO CALLS, KEPT -/
def S69 : Nat → Nat → Prop := fun a _ => a = 69
/-- a call makes so many cells at most -/
def GRO (h h' : AH) : Prop := ah_n h' ≤ ah_n h + 17 ∧ ah_u h' ≤ ah_u h + 80
theorem R_ok_mono {np np' : Nat} {R : RW} (o : R_ok np R) (l : np ≤ np') : R_ok np' R := by
  obtain ⟨o1, o2, o3, o4, o5, o6, o7, o8, o9, o10, o11, o12⟩ := o
  refine ⟨o1, o2, o3, o4, o5, fun l' k hl hk => ?_, o7, o8, o9, o10, o11, o12⟩
  have := o6 l' k hl hk
  by_cases e : l' = 3
  · rw [if_pos e] at *; exact this
  · rw [if_neg e] at *; omega
section INVS
variable {h h' : AH} {np : Nat} {pl : Nat → Nat} {R : RW} {m : Nat} {Ro : Nat → RW} {A I : List Nat} {X T F pc : Nat} {pa pb : Nat → Nat} {r : Nat} {S V : Nat → Nat → Prop}
theorem CIV.ag (c : CIV h np pl R m Ro A I X T F pc pa pb r) (g : AG (ah_n h) h h') (n : ah_n h ≤ ah_n h') : CIV h' np pl R m Ro A I X T F pc pa pb r := by
  obtain ⟨⟨c1, n70⟩, c2, ⟨⟨d1, d2, d3, d4⟩, c4, c5⟩, ⟨⟨a1, a2, a3, a4⟩, b1, b2, b3⟩, ⟨⟨b, g1⟩, ⟨x1, g2⟩, ⟨x2, g3⟩, b', g4⟩, ⟨⟨q1, q2, q3, q4⟩, q5⟩, c8⟩ := c
  refine ⟨⟨c1.ag g n70, by omega⟩, c2.ag g n70, ⟨⟨by rw [g.r _ _ (by omega)]; exact d1, d2.ag g c5, d3.ag g c5, d4⟩, c4, by omega⟩, ⟨⟨by rw [g.k _ (by omega)]; exact a1, by rw [g.z _ (by omega)]; exact a2, a3, fun k hk => ?_⟩, by rw [g.i _ _ (by omega)]; exact b1, fun k h1 h2 => by rw [g.r _ _ (by omega)]; exact b2 k h1 h2, fun k hk => by rw [g.r _ _ (by omega)]; exact b3 k hk⟩,
    ⟨⟨b, g1.ag g (by omega)⟩, ⟨x1, g2.ag g (by omega)⟩, ⟨x2, g3.ag g (by omega)⟩, b', by rw [g.i _ _ (by omega)]; exact g4⟩, ⟨⟨q1.ag g n70 (Nat.le_refl _), q2.ag g n70, by rw [g.i _ _ (by omega)]; exact q3, q4.ag g n70⟩, fun i hi => by rw [g.r _ _ (by omega), g.r _ _ (by omega)]; exact q5 i hi⟩, c8.ag g n70⟩
  obtain ⟨q, e1, e2, e3⟩ := a4 k hk
  obtain ⟨q', f1, f2⟩ := b3 k hk
  have e : q = q' := by rw [e1] at f1; injection f1
  subst e
  exact ⟨q, by rw [g.r _ _ (by omega)]; exact e1, e2.ag g (by omega), e3⟩
theorem CIV.irs (c : PIV np R m Ro A I X T F) : irs Ro m A I := irs_of c.2.2.1 c.2.2.2.1
/-- what only touches the reference, the law's array and the draft -/
theorem CIV.dr {R' : RW} (p : PIV np R m Ro A I X T F) (c : CIV h np pl R m Ro A I X T F pc pa pb r) (f : FR h h' fun a k => Sd r a k ∨ 49 ≤ a ∧ a ≤ 69) (d : RCo h' r R') : CIV h' np pl R' m Ro A I X T F pc pa pb r := by
  have fv := f.v fun _ _ => False
  obtain ⟨⟨c1, n70⟩, c2, ⟨⟨d1, d2, d3, d4⟩, c4, c5⟩, c6, c7, c8, c9⟩ := c
  have r3 : r = 3 ∨ 70 ≤ r := c4
  have wr : ∀ q, rpl q → q + 15 < r → ∀ j k, j < 16 → ¬ (fun a k => Sd r a k ∨ 49 ≤ a ∧ a ≤ 69) (q + j) k := fun q hq hl j k hj z => by
    have q3 : q = 3 ∨ 70 ≤ q := hq
    rcases z with z | z
    · have := z.1; omega
    · omega
  have nn : ∀ a k, (a < 3 ∨ 19 ≤ a ∧ a ≤ 48) → ¬ (fun a k => Sd r a k ∨ 49 ≤ a ∧ a ≤ 69) a k := fun a k ha z => by
    rcases z with z | z
    · have := z.1; have := z.2; omega
    · omega
  refine ⟨⟨c1.fr f, by rw [f.1]; exact n70⟩, c2.fv fv (nn _ _ (by omega)) (fun k => nn _ _ (by omega)), ⟨⟨by rw [f.k.2.2]; exact d1, d2.fr f, d, d4⟩, c4, by rw [f.1]; exact c5⟩, c6.fv fv (fun _ _ z => z.elim) (nn _ _ (by omega)) wr, c7.fv fv (fun a k h1 h2 => nn a k (by omega)), ?_, c9.fv fv fun a k h1 h2 => nn a k (by omega)⟩
  exact c8.fv c6 (CIV.irs p) fv (fun _ _ z => z.elim) (fun k _ => nn _ _ (by omega)) (fun k => nn _ _ (by omega)) (nn _ _ (by omega)) (fun a k h1 h2 => nn a k (by omega)) (fun k => nn _ _ (by omega)) (fun k => nn _ _ (by omega)) wr
/-- what only touches the reference and the law's array -/
theorem CIV.mo (p : PIV np R m Ro A I X T F) (c : CIV h np pl R m Ro A I X T F pc pa pb r) (f : FR h h' fun a _ => 49 ≤ a ∧ a ≤ 69) : CIV h' np pl R m Ro A I X T F pc pa pb r := by
  refine c.dr p (f.mono fun a k z => Or.inr z) (c.2.2.1.1.2.2.1.fr f fun j k hj z => ?_)
  have r3 : r = 3 ∨ 70 ≤ r := c.2.2.1.2.1
  omega
theorem OU.ag (o : OU h) (g : AG (ah_n h) h h') (n : 70 ≤ ah_n h) : OU h' := ⟨by rw [g.k _ (by omega)]; exact o.1, by rw [g.z _ (by omega)]; exact o.2⟩
theorem OU.fr (o : OU h) (f : FR h h' S) : OU h' := ⟨by rw [f.k.1]; exact o.1, by rw [f.k.2.1]; exact o.2⟩
theorem AG_th (h : AH) : AG (ah_n h) h (ap_n h 30 0 6) := (AG.refl _ h).n (Nat.le_refl _) _ _ _
end INVS

