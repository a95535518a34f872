/-! CALLS OF BOTH SIDES: THE QUESTIONS -/
section OPS
variable {sc : (Nat → Int32) × Nat} {h h1 h2 : AH} {np : Nat} {pl : Nat → Nat} {R : RW} {m : Nat} {Ro : Nat → RW} {A I : List Nat} {X T F pc : Nat} {pa pb : Nat → Nat} {r : Nat}
theorem CIV.q (c : CIV h np pl R m Ro A I X T F pc pa pb r) (rq : RQ h (PGo Ro A I) X T F h1) : CIV h1 np pl R m Ro A I X T F pc pa pb r := by
  obtain ⟨f, q⟩ := rq
  have fv := f.v fun _ _ => False
  obtain ⟨⟨c1, n70⟩, c2, ⟨d, c4, c5⟩, c6, c7, c8, c9⟩ := c
  have nn : ∀ a k, (a ≠ 0 ∨ k < 13) → a ≠ 44 → a ≠ 46 → a ≠ 47 → a ≠ 48 → ¬ SQ a k := fun a k h1 h2 h3 h4 h5 z => by unfold SQ S46 at z; omega
  have r3 : r = 3 ∨ 70 ≤ r := c4
  refine ⟨⟨c1.fr f, by rw [f.1]; exact n70⟩, c2.fv fv (nn _ _ (by omega) (by omega) (by omega) (by omega) (by omega)) (fun k => nn _ _ (by omega) (by omega) (by omega) (by omega) (by omega)), ⟨d.fv fv (fun _ _ z => z.elim) (fun j k hj => nn _ _ (by omega) (by omega) (by omega) (by omega) (by omega)) c4, c4, by rw [f.1]; exact c5⟩, c6.fv fv (fun _ _ z => z.elim) (nn _ _ (by omega) (by omega) (by omega) (by omega) (by omega)) (fun q hq _ j k hj => by
    have q3 : q = 3 ∨ 70 ≤ q := hq
    exact nn _ _ (by omega) (by omega) (by omega) (by omega) (by omega)), c7.fv fv (fun a k h1 h2 => nn a k (by omega) (by omega) (by omega) (by omega) (by omega)), ⟨q, fun i hi => by rw [f.k.2.2, f.k.2.2]; exact c8.2 i hi⟩, c9.fv fv fun a k h1 h2 => nn a k (by omega) (by omega) (by omega) (by omega) (by omega)⟩
end OPS

