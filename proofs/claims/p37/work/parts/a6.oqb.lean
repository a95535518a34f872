/-! CALLS OF BOTH SIDES: EXTERNAL -/
section OPS
variable {sc : (Nat → Int32) × Nat} {h h' : AH} {np : Nat} {pl : Nat → Nat} {R : RW} {m : Nat} {Ro : Nat → RW} {A I : List Nat} {X T F pc : Nat} {pa pb : Nat → Nat} {r : Nat}
theorem CIV.sg (p : PIV np R m Ro A I X T F) (c : CIV h np pl R m Ro A I X T F pc pa pb r) (f : FR h h' (SG 19)) (g : ∃ b, GC h' 19 (A, I, b)) (a : ∃ c, CA h' 22 c) : CIV h' np pl R m Ro A I X T F pc pa pb r := by
  have fv := f.v fun _ _ => False
  have nn : ∀ a k, (a < 19 ∨ 22 < a) → ¬ SG 19 a k := fun a k h1 z => by have := z.1; have := z.2; omega
  obtain ⟨⟨c1, n70⟩, c2, ⟨d, c4, c5⟩, c6, ⟨_, _, ⟨x26, c26⟩, b5, g5⟩, c8, c9⟩ := c
  have r3 : r = 3 ∨ 70 ≤ r := c4
  have q : ∀ q, rpl q → q + 15 < r → ∀ j k, j < 16 → ¬ SG 19 (q + j) k := fun q hq _ j k hj => by
    have q3 : q = 3 ∨ 70 ≤ q := hq
    exact nn _ _ (by omega)
  obtain ⟨b, g⟩ := g
  refine ⟨⟨c1.fr f, by rw [f.1]; exact n70⟩, c2.fv fv (nn _ _ (by omega)) (fun k => nn _ _ (by omega)), ⟨d.fv fv (fun _ _ z => z.elim) (fun j k hj => nn _ _ (by omega)) c4, c4, by rw [f.1]; exact c5⟩, c6.fv fv (fun _ _ z => z.elim) (nn _ _ (by omega)) q, ⟨⟨b, g⟩, a, ⟨x26, c26.fr f fun k => nn 26 k (by omega)⟩, b5, by rw [f.ci (nn 23 5 (by omega))]; exact g5⟩, ⟨⟨?_, ?_, g.1.1, ?_⟩, fun i hi => by rw [f.k.2.2, f.k.2.2]; exact c8.2 i hi⟩, c9.fv fv fun a k h1 h2 => nn a k (by omega)⟩
  · have s19 := ss_19 c1
    refine c8.1.1.fr f (fun a k z => ?_) (fun k => nn _ _ (by omega)) (fun k => nn _ _ (by omega)) (fun k => nn _ _ (by omega)) (fun k => nn _ _ (by omega)) (fun k => nn _ _ (by omega)) (fun k => nn _ _ (by omega)) (fun k => nn _ _ (by omega)) (fun k => nn _ _ (by omega))
    have z1 := z.1
    have z2 := z.2
    have : a = 19 ∨ a = 20 ∨ a = 21 ∨ a = 22 := by omega
    rcases this with rfl | rfl | rfl | rfl <;> simp only [s19] <;> decide
  · have := c8.1.2.1
    unfold EX at *
    rw [f.ci (nn _ _ (by omega)), f.ci (nn _ _ (by omega)), f.ci (nn _ _ (by omega))]
    exact this
  · exact c8.1.2.2.2.fv fv (fun k _ => nn _ _ (by omega)) (fun k => nn _ _ (by omega)) (fun k => nn _ _ (by omega))
theorem exA_mono {A A' : List Nat} {X X' : Nat} (hA : ∀ k, k < A.length → k < A'.length ∧ lat A' k = lat A k) (hX : ∀ k, X.testBit k = true → X'.testBit k = true) : ∀ x, exA A X x → exA A' X' x := fun x ⟨k, h1, h2, h3⟩ => ⟨k, (hA k h1).1, hX k h2, by rw [(hA k h1).2]; exact h3⟩
/-- an external more, in the class -/
theorem CIV.x {A' I' : List Nat} {k : Nat} {b : Bool} (p : PIV np R m Ro A I X T F) (c : CIV h np pl R m Ro A I X T F pc pa pb r) (hA : A.length ≤ A'.length) (hk : k < A'.length) (f : FV h h' S13 V32) (g : GC h' 19 (A', I', b)) (a : ∃ c, CA h' 22 c) (cp : CP h' (PGo Ro A' I')) (rf : ∀ i, i < I'.length → ah_r h' 32 i = ah_r h 2 (irl I' i)) (x0 : ah_i h' 27 0 = nI (X ||| 2 ^ k)) (cs : CSH h' (PGo Ro A' I') T F) : CIV h' np pl R m Ro A' I' (X ||| 2 ^ k) T F pc pa pb r := by
  have nn : ∀ a k, a ≠ 27 → (a = 0 → k ≠ 13) → (a < 19 ∨ 22 < a) → (a < 31 ∨ 42 < a) → ¬ S13 a k := fun a k h1 h2 h3 h4 z => by unfold S13 SG S25 at z; omega
  obtain ⟨⟨c1, n70⟩, c2, ⟨d, c4, c5⟩, c6, ⟨_, _, ⟨x26, c26⟩, b5, g5⟩, c8, c9⟩ := c
  have r3 : r = 3 ∨ 70 ≤ r := c4
  have q : ∀ q, rpl q → q + 15 < r → ∀ j k, j < 16 → ¬ S13 (q + j) k := fun q hq _ j k hj => by
    have q3 : q = 3 ∨ 70 ≤ q := hq
    exact nn _ _ (by omega) (by omega) (by omega) (by omega)
  have xl : X ||| 2 ^ k < 2 ^ A'.length := or_lt (Nat.lt_of_lt_of_le p.2.2.2.2.2.1 (p2_le hA)) (p2_lt hk)
  refine ⟨⟨cp.1, by rw [f.1]; exact n70⟩, c2.fv f (nn _ _ (by omega) (by omega) (by omega) (by omega)) (fun k => nn _ _ (by omega) (by omega) (by omega) (by omega)), ⟨d.fv f (fun a k z => Or.inl z) (fun j k hj => nn _ _ (by omega) (by omega) (by omega) (by omega)) c4, c4, by rw [f.1]; exact c5⟩, c6.fv f (fun _ _ z => z) (nn _ _ (by omega) (by omega) (by omega) (by omega)) q, ⟨⟨b, g⟩, a, ⟨x26, c26.fv f fun k => nn 26 k (by omega) (by omega) (by omega) (by omega)⟩, b5, by rw [f.ci (nn 23 5 (by omega) (by omega) (by omega) (by omega))]; exact g5⟩, ⟨⟨cp, ?_, g.1.1, cs⟩, fun i hi => ?_⟩, c9.fv f fun a k h1 h2 => nn a k (by omega) (by omega) (by omega) (by omega)⟩
  · obtain ⟨x1, x2, x3, x4, x5, x6⟩ := c8.1.2.1
    exact ⟨x0, by rw [f.ci (fun z => by unfold S13 SG S25 at z; omega)]; exact x2, by rw [f.ci (fun z => by unfold S13 SG S25 at z; omega)]; exact x3, xl, Nat.lt_of_lt_of_le x5 (p2_le hA), Nat.lt_of_lt_of_le x6 (p2_le hA)⟩
  · rw [rf i hi]
    exact (f.cr (fun z => absurd (show 2 = 32 from z) (by decide))).symm
end OPS

