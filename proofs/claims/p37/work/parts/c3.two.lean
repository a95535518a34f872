/-! TWO OBJECTS IN ONE HEAP -/
def TWO (g g2 : SG1) (H : AH) (a1 a2 : Nat) : Prop := ∃ h1 h2 D1 D2 r1 r2, STO g h1 ∧ STO g2 h2 ∧ EMB D1 r1 h1 H ∧ EMB D2 r2 h2 H ∧ (D1 0 ∧ r1 0 = a1) ∧ (D2 0 ∧ r2 0 = a2) ∧ ∀ a b, D1 a → D2 b → r1 a ≠ r2 b
theorem STO.k {g : SG1} {h : AH} (s : STO g h) : ah_k h 0 = 11 := by
  obtain ⟨np, pl, R, m, Ro, A, I, X, T, F, pc, pa, pb⟩ := g
  obtain ⟨r, c⟩ := s
  exact c.1.1.1.1
section TWOS
variable {sc : (Nat → Int32) × Nat} {d c : Nat} {args : List Value} {g g' g2 : SG1} {h H : AH} {a1 a2 : Nat}
theorem TC_up {mi : Nat} {as : List Value} {Q : Rs → AH → Prop} (k : Nat) (t : TC sc d mi as h Q) : TC sc (d + k) mi as h Q := by
  obtain ⟨r, h', x, q⟩ := t
  exact ⟨r, h', Rx_up k x, q⟩
theorem TWO.sw (t : TWO g g2 H a1 a2) : TWO g2 g H a2 a1 := by
  obtain ⟨h1, h2, D1, D2, r1, r2, s1, s2, e1, e2, z1, z2, n⟩ := t
  exact ⟨h2, h1, D2, D1, r2, r1, s2, s1, e2, e1, z2, z1, fun a b x y z => n b a y x z.symm⟩
theorem TWO.k (t : TWO g g2 H a1 a2) : ah_k H a1 = 11 ∧ ah_k H a2 = 11 := by
  obtain ⟨h1, h2, D1, D2, r1, r2, s1, s2, e1, e2, ⟨z1, z3⟩, ⟨z2, z4⟩, n⟩ := t
  rw [← z3, ← z4]
  exact ⟨(e1.1 0 z1).2.2.1.trans s1.k, (e2.1 0 z2).2.2.1.trans s2.k⟩
theorem iD {D : Nat → Prop} (ha : ∀ v ∈ args, ∃ x : Int32, v = .int x) : lD D args := fun v z => by
  obtain ⟨x, rfl⟩ := ha v z
  exact vDi
theorem iM {r : Nat → Nat} (ha : ∀ v ∈ args, ∃ x : Int32, v = .int x) : args.map (vm r) = args := by
  rw [List.map_congr_left (g := id) fun v z => by
    obtain ⟨x, rfl⟩ := ha v z
    rfl, List.map_id]
theorem TWO_call (t : TWO g g2 H a1 a2) (ha : ∀ v ∈ args, ∃ x : Int32, v = .int x) {Z : AH → Rs → AH → Prop} (C : ∀ h, STO g h → TC sc d c (.ref 0 :: args) h (Z h)) : TC sc d c (.ref a1 :: args) H fun q H' => ∃ h q0 h' r, Z h q0 h' ∧ q = rm r q0 ∧ ah_n H' + ah_n h = ah_n H + ah_n h' ∧ ah_u H' + ah_u h = ah_u H + ah_u h' ∧ ∀ g', STO g' h' → TWO g' g2 H' a1 a2 := by
  obtain ⟨h1, h2, D1, D2, r1, r2, s1, s2, e1, e2, ⟨z1, z3⟩, ⟨z2, z4⟩, n⟩ := t
  have T := TC_emb (C h1 s1) e1 (lDc (vDr z1) (iD ha))
  rw [show (Value.ref 0 :: args).map (vm r1) = .ref a1 :: args from by
    show Value.ref (r1 0) :: args.map (vm r1) = _
    rw [z3, iM ha]] at T
  refine TC_mono T ?_
  rintro q H' ⟨D, r, q0, h', x, e, rd, eq, z⟩
  refine ⟨h1, q0, h', r, z, eq, x.2.2.2.1, x.2.2.2.2.1, fun g' s' => ⟨h', h2, D, D2, r, r2, s', s2, e, EMB_k e2 x.2.2.2.2.2 x.2.2.1 (fun a b u v w => n b a v u w.symm), ⟨(x.1 0 z1).1, (x.1 0 z1).2.trans z3⟩, ⟨z2, z4⟩, fun a b u v w => ?_⟩⟩
  rcases x.2.1 a u with y | y
  · rw [(x.1 a y).2] at w
    exact n a b y v w
  · have := (e2.1 b v).2.1
    omega
theorem TWO_ops {o : Rs} (t : TWO g g2 H a1 a2) (ha : ∀ v ∈ args, ∃ x : Int32, v = .int x) (O : OPS c args g o g') (ho : ∀ r, rm r o = o) (k : Nat) : TC sc (60 + k) c (.ref a1 :: args) H fun q H' => q = o ∧ TWO g' g2 H' a1 a2 ∧ GRO H H' := by
  refine TC_up k (TC_mono (TWO_call t ha fun h s => O sc h s) ?_)
  rintro q H' ⟨h, q0, h', r, ⟨rfl, s', gr⟩, e, n1, n2, z⟩
  refine ⟨e.trans (ho r), z g' s', ?_, ?_⟩
  · have := gr.1; omega
  · have := gr.2; omega
theorem TWO_qst {G : Int32 → Prop} (t : TWO g g2 H a1 a2) (ha : ∀ v ∈ args, ∃ x : Int32, v = .int x) (O : QST c args g G) (k : Nat) : TC sc (60 + k) c (.ref a1 :: args) H fun q H' => (∃ v, q = .inl (some (.int v)) ∧ G v) ∧ TWO g g2 H' a1 a2 ∧ ah_n H' = ah_n H ∧ ah_u H' = ah_u H := by
  refine TC_up k (TC_mono (TWO_call t ha fun h s => O sc h s) ?_)
  rintro q H' ⟨h, q0, h', r, ⟨⟨v, rfl, gv⟩, s', u1, u2⟩, e, n1, n2, z⟩
  exact ⟨⟨v, e, gv⟩, z g s', by omega, by omega⟩
theorem TWO_qsl {G : Int64 → Prop} (t : TWO g g2 H a1 a2) (ha : ∀ v ∈ args, ∃ x : Int32, v = .int x) (O : QSL c args g G) (k : Nat) : TC sc (60 + k) c (.ref a1 :: args) H fun q H' => (∃ v, q = .inl (some (.long v)) ∧ G v) ∧ TWO g g2 H' a1 a2 ∧ ah_n H' = ah_n H ∧ ah_u H' = ah_u H := by
  refine TC_up k (TC_mono (TWO_call t ha fun h s => O sc h s) ?_)
  rintro q H' ⟨h, q0, h', r, ⟨⟨v, rfl, gv⟩, s', u1, u2⟩, e, n1, n2, z⟩
  exact ⟨⟨v, e, gv⟩, z g s', by omega, by omega⟩
end TWOS
