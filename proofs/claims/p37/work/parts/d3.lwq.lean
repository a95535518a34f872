/-! THE LAW'S QUESTIONS -/
/-- two objects, so many cells and slots -/
def TWN (g g2 : SG1) (H : AH) (a1 a2 n u : Nat) : Prop := TWO g g2 H a1 a2 ∧ ah_n H = n ∧ ah_u H = u
section QC
variable {sc : (Nat → Int32) × Nat} {c : Nat} {args : List Value} {g g2 : SG1} {H : AH} {a1 a2 n u : Nat} {Q : Rs → AH → Prop}
theorem qc1 {G : Int32 → Prop} (t : TWN g g2 H a1 a2 n u) (O : QST c args g G) (ha : ∀ v ∈ args, ∃ x : Int32, v = .int x) (k : Nat) (hq : ∀ v H', G v → TWN g g2 H' a1 a2 n u → Q (.inl (some (.int v))) H') : TC sc (60 + k) c (.ref a1 :: args) H Q := by
  refine TC_mono (TWO_qst t.1 ha O k) ?_
  rintro q H' ⟨⟨v, rfl, gv⟩, t', n1, u1⟩
  exact hq v H' gv ⟨t', n1.trans t.2.1, u1.trans t.2.2⟩
theorem TWN.sw (t : TWN g g2 H a1 a2 n u) : TWN g2 g H a2 a1 n u := ⟨t.1.sw, t.2⟩
theorem qc2 {G : Int32 → Prop} (t : TWN g g2 H a1 a2 n u) (O : QST c args g2 G) (ha : ∀ v ∈ args, ∃ x : Int32, v = .int x) (k : Nat) (hq : ∀ v H', G v → TWN g g2 H' a1 a2 n u → Q (.inl (some (.int v))) H') : TC sc (60 + k) c (.ref a2 :: args) H Q := qc1 t.sw O ha k fun v H' gv t' => hq v H' gv t'.sw
theorem ql1 {G : Int64 → Prop} (t : TWN g g2 H a1 a2 n u) (O : QSL c args g G) (ha : ∀ v ∈ args, ∃ x : Int32, v = .int x) (k : Nat) (hq : ∀ v H', G v → TWN g g2 H' a1 a2 n u → Q (.inl (some (.long v))) H') : TC sc (60 + k) c (.ref a1 :: args) H Q := by
  refine TC_mono (TWO_qsl t.1 ha O k) ?_
  rintro q H' ⟨⟨v, rfl, gv⟩, t', n1, u1⟩
  exact hq v H' gv ⟨t', n1.trans t.2.1, u1.trans t.2.2⟩
theorem ql2 {G : Int64 → Prop} (t : TWN g g2 H a1 a2 n u) (O : QSL c args g2 G) (ha : ∀ v ∈ args, ∃ x : Int32, v = .int x) (k : Nat) (hq : ∀ v H', G v → TWN g g2 H' a1 a2 n u → Q (.inl (some (.long v))) H') : TC sc (60 + k) c (.ref a2 :: args) H Q := ql1 t.sw O ha k fun v H' gv t' => hq v H' gv t'.sw
end QC
