/-! THE OBJECT ALONE: QUESTIONS -/
def QST (c : Nat) (args : List Value) (g : SG1) (G : Int32 → Prop) : Prop := ∀ (sc : (Nat → Int32) × Nat) (h : AH), STO g h → TC sc 60 c (.ref 0 :: args) h fun q h' => (∃ v, q = .inl (some (.int v)) ∧ G v) ∧ STO g h' ∧ ah_n h' = ah_n h ∧ ah_u h' = ah_u h
def QSL (c : Nat) (args : List Value) (g : SG1) (G : Int64 → Prop) : Prop := ∀ (sc : (Nat → Int32) × Nat) (h : AH), STO g h → TC sc 60 c (.ref 0 :: args) h fun q h' => (∃ v, q = .inl (some (.long v)) ∧ G v) ∧ STO g h' ∧ ah_n h' = ah_n h ∧ ah_u h' = ah_u h
section OBJ
variable {h : AH} {np : Nat} {pl : Nat → Nat} {R : RW} {m : Nat} {Ro : Nat → RW} {A I : List Nat} {X T F pc : Nat} {pa pb : Nat → Nat} {r : Nat} {c : Nat} {args : List Value}
theorem qs_of {G : Int32 → Prop} (C : ∀ sc h r, CIV h np pl R m Ro A I X T F pc pa pb r → TC sc 60 c (.ref 0 :: args) h fun q h' => RQ h (PGo Ro A I) X T F h' ∧ ∃ v, q = .inl (some (.int v)) ∧ G v) : QST c args (np, pl, R, m, Ro, A, I, X, T, F, pc, pa, pb) G := by
  rintro sc h ⟨r, c⟩
  refine TC_mono (C sc h r c) ?_
  rintro q h' ⟨rq, v, e, g⟩
  exact ⟨⟨v, e, g⟩, ⟨r, c.q rq⟩, rq.1.1, rq.1.2.1⟩
theorem qs_oe {w : Int32} (C : ∀ sc h r, CIV h np pl R m Ro A I X T F pc pa pb r → TC sc 60 c (.ref 0 :: args) h fun q h' => q = .inl (some (.int w)) ∧ RQ h (PGo Ro A I) X T F h') : QST c args (np, pl, R, m, Ro, A, I, X, T, F, pc, pa, pb) (fun v => v = w) :=
  qs_of fun sc h r c => TC_mono (C sc h r c) fun _ _ z => ⟨z.2, w, z.1, rfl⟩
theorem qs_17 : QST 17 [] (np, pl, R, m, Ro, A, I, X, T, F, pc, pa, pb) (fun v => v = nI (I.length + 100 * A.length)) := by
  rintro sc h ⟨r, c⟩
  obtain ⟨b, gc⟩ := c.2.2.2.2.1.1
  exact (d_17 c.1.1 gc).mpr ⟨⟨_, rfl, rfl⟩, ⟨r, c⟩, rfl, rfl⟩
theorem qs_18 (p : PIV np R m Ro A I X T F) : QST 18 [] (np, pl, R, m, Ro, A, I, X, T, F, pc, pa, pb) (fun v => v = nI (I.length + 100 * A.length)) := by
  rintro sc h ⟨r, c⟩
  obtain ⟨⟨b, gc⟩, c22, c26, b5⟩ := c.2.2.2.2.1
  have a12 : A.length ≤ 12 := gc.1.2.1
  have x31 : X < 2 ^ 31 := Nat.lt_of_lt_of_le p.2.2.2.2.2.1 (p2_le (n := 31) (by omega))
  have nd : A.Nodup := p.2.2.2.1.1.1
  have D := d_18 (sc := sc) (d := 47) c.1.1 c.2.2.2.1.1 c.2.2.2.1.2.1 gc c26 b5 c.2.2.2.2.2.1.1.2.1.1 x31 nd
  have an := gal_anew p.2.2.1 p.2.2.2.1 rfl p.2.2.2.2.1 (fun x ⟨k, k1, k2, k3⟩ => by
    show x ∈ A
    rw [← k3]; exact lat_mem k1) (exl_n (X := X) nd (Nat.le_refl _)).1 (fun x => exl_m)
  rw [an.2.1, an.2.2] at D
  refine TC_mono D ?_
  rintro q h1 ⟨rfl, f, g26, g5⟩
  have fv := f.v fun _ _ => False
  have nn : ∀ a k, (a < 23 ∨ 26 < a) → ¬ SG 23 a k := fun a k h1 z => by have := z.1; have := z.2; omega
  have r3 : r = 3 ∨ 70 ≤ r := c.2.2.1.2.1
  refine ⟨⟨_, rfl, rfl⟩, ⟨r, ?_⟩, f.1, f.2.1⟩
  obtain ⟨⟨c1, n70⟩, c2, ⟨d, c4, c5⟩, c6, c7, c8, c9⟩ := c
  refine ⟨⟨c1.fr f, by rw [f.1]; exact n70⟩, c2.fv fv (nn _ _ (by omega)) (fun k => nn _ _ (by omega)), ⟨d.fv fv (fun _ _ z => z.elim) (fun j k hj => nn _ _ (by omega)) c4, c4, by rw [f.1]; exact c5⟩, c6.fv fv (fun _ _ z => z.elim) (nn _ _ (by omega)) (fun q hq _ j k hj => by
    have q3 : q = 3 ∨ 70 ≤ q := hq
    exact nn _ _ (by omega)), ⟨⟨b, GC_fr gc f fun a k z => by have := z.1; have := z.2; exact nn a k (by omega)⟩, ?_, g26, g5⟩, ?_, c9.fv fv fun a k h1 h2 => nn a k (by omega)⟩
  · obtain ⟨x, c22⟩ := c22
    exact ⟨x, c22.fr f fun k => nn 22 k (by omega)⟩
  · exact c8.fv c6 (CIV.irs p) fv (fun _ _ z => z.elim) (fun k _ => nn _ _ (by omega)) (fun k => nn _ _ (by omega)) (nn _ _ (by omega)) (fun a k h1 h2 => nn a k (by omega)) (fun k => nn _ _ (by omega)) (fun k => nn _ _ (by omega)) (fun q hq _ j k hj => by
      have q3 : q = 3 ∨ 70 ≤ q := hq
      exact nn _ _ (by omega))
theorem qs_20 : QST 20 [] (np, pl, R, m, Ro, A, I, X, T, F, pc, pa, pb) (fun v => v = nI (cnt (aset (PGo Ro A I) T F) 4096)) := qs_oe fun sc h r c => d_20 c.2.2.2.2.2.1.1
theorem qs_21 : QST 21 [] (np, pl, R, m, Ro, A, I, X, T, F, pc, pa, pb) (fun v => v = nI (cnt (aset (PGo Ro A I) T F) 4096)) := qs_oe fun sc h r c => d_21 c.2.2.2.2.2.1.1
theorem qs_22 {i : Nat} (hi : i < cnt (aset (PGo Ro A I) T F) 4096) : QST 22 [.int (nI i)] (np, pl, R, m, Ro, A, I, X, T, F, pc, pa, pb) (fun v => v = nI (nths (aset (PGo Ro A I) T F) i 4096)) := qs_oe fun sc h r c => d_22 c.2.2.2.2.2.1.1 hi
theorem qs_23 {a b : Nat} (ha : a < 2 ^ A.length) (hb : b < 2 ^ A.length) : QST 23 [.int (nI a), .int (nI b)] (np, pl, R, m, Ro, A, I, X, T, F, pc, pa, pb) (fun v => v = nI (cnt (fun s => aset (PGo Ro A I) T F s && mee a b s) 4096)) := qs_oe fun sc h r c => d_23 c.2.2.2.2.2.1.1 ha hb
theorem qs_24 {a b : Nat} (ha : a < 2 ^ A.length) (hb : b < 2 ^ A.length) (h8 : pop a 12 + pop b 12 ≤ 8) : QST 24 [.int (nI a), .int (nI b)] (np, pl, R, m, Ro, A, I, X, T, F, pc, pa, pb) (cfG (PGo Ro A I) T F (a + 4096 * b)) := qs_of fun sc h r c => TC_mono (d_24 c.2.2.2.2.2.1.1 ha hb h8) (by
  rintro q h' ⟨z1, ⟨rfl, z2⟩ | ⟨z, rfl, z2⟩⟩
  · exact ⟨z1, _, rfl, Or.inl ⟨rfl, z2⟩⟩
  · exact ⟨z1, _, rfl, Or.inr ⟨z, rfl, z2⟩⟩)
theorem qs_25 {i l : Nat} (hi : i < cnt (aset (PGo Ro A I) T F) 4096) (hl : l < 3) : QSL 25 [.int (nI i), .int (nI l)] (np, pl, R, m, Ro, A, I, X, T, F, pc, pa, pb) (fun v => v = cst (PGo Ro A I) (nths (aset (PGo Ro A I) T F) i 4096) (nI l) (P_m (PGo Ro A I))) := by
  rintro sc h ⟨r, c⟩
  refine TC_mono (d_25 c.2.2.2.2.2.1.1 hi hl) ?_
  rintro q h' ⟨e, rq⟩
  exact ⟨⟨_, e, rfl⟩, ⟨r, c.q rq⟩, rq.1.1, rq.1.2.1⟩
theorem qs_26 {i : Nat} (hi : i < cnt (aset (PGo Ro A I) T F) 4096) : QST 26 [.int (nI i)] (np, pl, R, m, Ro, A, I, X, T, F, pc, pa, pb) (rkr (PGo Ro A I) T F pc pa pb (nths (aset (PGo Ro A I) T F) i 4096)) := qs_of fun sc h r c => d_26 c.2.2.2.2.2.1.1 c.2.2.2.2.2.2 hi
theorem qs_27 {a : Nat} (ha : a < 2 ^ A.length) : QST 27 [.int (nI a)] (np, pl, R, m, Ro, A, I, X, T, F, pc, pa, pb) (fun v => v = nI (cnt (prj (aset (PGo Ro A I) T F) a 4096) 4096)) := qs_oe fun sc h r c => d_27 c.2.2.2.2.2.1.1 ha
theorem qs_28 : QST 28 [] (np, pl, R, m, Ro, A, I, X, T, F, pc, pa, pb) (fun v => v = nI (orU (aset (PGo Ro A I) T F) (2 ^ A.length))) := qs_oe fun sc h r c => d_28 c.2.2.2.2.2.1.1
theorem qs_29 : QST 29 [] (np, pl, R, m, Ro, A, I, X, T, F, pc, pa, pb) (fun v => v = nI (anU (aset (PGo Ro A I) T F) (2 ^ A.length - 1) (2 ^ A.length))) := qs_oe fun sc h r c => d_29 c.2.2.2.2.2.1.1
theorem qs_30 {i x : Nat} (hi : i < cnt (aset (PGo Ro A I) T F) 4096) (hx : x < 4) : QST 30 [.int (nI i), .int (nI x)] (np, pl, R, m, Ro, A, I, X, T, F, pc, pa, pb) (fun v => v = Int32.ofInt (vals (PGo Ro A I) (Hd (PGo Ro A I) (hl (PGo Ro A I) (nths (aset (PGo Ro A I) T F) i 4096))) x)) := qs_oe fun sc h r c => d_30 c.2.2.2.2.2.1.1 hi hx
theorem qs_32 {a : Nat} (ha : a < A.length) : QST 32 [.int (nI a)] (np, pl, R, m, Ro, A, I, X, T, F, pc, pa, pb) (barr (PGo Ro A I) T F a) := qs_of fun sc h r c => d_32 c.2.2.2.2.2.1.1 ha
theorem qs_33 {a : Nat} (ha : a < A.length) : QST 33 [.int (nI a)] (np, pl, R, m, Ro, A, I, X, T, F, pc, pa, pb) (fun v => v = nI (lop (PGo Ro A I) a)) := qs_of fun sc h r c => (d_33 c.2.2.2.2.2.1.1 ha).mpr ⟨⟨FR.refl _ _, c.2.2.2.2.2.1.1⟩, _, rfl, rfl⟩
theorem qs_34 {p : Nat} (hp : p < 2 ^ A.length) : QST 34 [.int (nI p)] (np, pl, R, m, Ro, A, I, X, T, F, pc, pa, pb) (fun v => v = nI (orU (unf (PGo Ro A I) T F p) (2 ^ A.length))) := qs_oe fun sc h r c => d_34 c.2.2.2.2.2.1.1 hp
end OBJ
