/-! WHAT HOLDS BETWEEN TWO CALLS -/
def RUL (h : AH) (r m : Nat) (Ro : Nat → RW) : Prop := RA h 2 m Ro ∧ ah_i h 0 3 = nI m ∧ (∀ n, m ≤ n → n < 20 → ah_r h 2 n = none) ∧ ∀ n, n < m → ∃ q, ah_r h 2 n = some q ∧ q + 15 < r
def GDI (h : AH) (A I : List Nat) : Prop := (∃ b, GC h 19 (A, I, b)) ∧ (∃ c, CA h 22 c) ∧ (∃ c, CA h 26 c) ∧ ∃ b, ah_i h 23 5 = bI b
def QI (h : AH) (Ro : Nat → RW) (A I : List Nat) (X T F : Nat) : Prop := QS h (PGo Ro A I) X T F ∧ ∀ i, i < I.length → ah_r h 32 i = ah_r h 2 (irl I i)
def CIV (h : AH) (np : Nat) (pl : Nat → Nat) (R : RW) (m : Nat) (Ro : Nat → RW) (A I : List Nat) (X T F pc : Nat) (pa pb : Nat → Nat) (r : Nat) : Prop :=
  (SHP h ∧ 70 ≤ ah_n h) ∧ PLC h np pl ∧ (DRC h r R ∧ rpl r ∧ r + 15 < ah_n h) ∧ RUL h r m Ro ∧ GDI h A I ∧ QI h Ro A I X T F ∧ PRF h pc pa pb
/-- the externals' codes -/
def exA (A : List Nat) (X : Nat) (x : Nat) : Prop := ∃ k, k < A.length ∧ X.testBit k = true ∧ lat A k = x
def PIV (np : Nat) (R : RW) (m : Nat) (Ro : Nat → RW) (A I : List Nat) (X T F : Nat) : Prop := R_ok np R ∧ np ≤ 6 ∧ RsO Ro m ∧ GV (exA A X) Ro m (A, I, true) ∧ gcl Ro m (A, I, true) ∧ X < 2 ^ A.length ∧ T < 2 ^ A.length ∧ F < 2 ^ A.length
def OU (h : AH) : Prop := ah_k h 69 = 21 ∧ ah_z h 69 = 1
section INVS
variable {h h' : AH} {np : Nat} {pl : Nat → Nat} {R : RW} {m : Nat} {Ro : Nat → RW} {A I : List Nat} {X T F pc : Nat} {pa pb : Nat → Nat} {r : Nat} {S V : Nat → Nat → Prop}
theorem PIV.ok (p : PIV np R m Ro A I X T F) : P_ok (PGo Ro A I) := PGo_ok p.2.2.1 p.2.2.2.1.1.2.2.1 p.2.2.2.1.1.2.2.2.1 (irs_of p.2.2.1 p.2.2.2.1)
theorem PLC.fv (s : PLC h np pl) (f : FV h h' S V) (n0 : ¬ S 0 1) (n1 : ∀ k, ¬ S 1 k) : PLC h' np pl := by
  have e : ∀ k, ah_i h' 1 k = ah_i h 1 k := fun k => f.ci (n1 k)
  unfold PLC at *
  rw [f.ci n0]
  simp only [e]
  exact s
theorem DRC.fv (s : DRC h r R) (f : FV h h' S V) (n : ∀ a k, V a k → a = 32 ∨ a = 2) (w : ∀ j k, j < 16 → ¬ S (r + j) k) (p : rpl r) : DRC h' r R := by
  refine ⟨?_, s.2.1.fv f (fun a k z => ?_) p, s.2.2.1.fv f w, s.2.2.2⟩
  · rw [f.cr (fun z => by have := n _ _ z; omega)]; exact s.1
  · have := n a k z; unfold V0; omega
theorem RUL.fv (s : RUL h r m Ro) (f : FV h h' S V) (n : ∀ a k, V a k → a = 32) (n3 : ¬ S 0 3) (w : ∀ q, rpl q → q + 15 < r → ∀ j k, j < 16 → ¬ S (q + j) k) : RUL h' r m Ro := by
  obtain ⟨⟨a1, a2, a3, a4⟩, b, c, d⟩ := s
  have e2 : ∀ k, ah_r h' 2 k = ah_r h 2 k := fun k => f.cr fun z => by have := n _ _ z; omega
  refine ⟨⟨by rw [f.2.2.1]; exact a1, by rw [f.2.2.2.1]; exact a2, a3, fun k hk => ?_⟩, by rw [f.ci n3]; exact b, fun k h1 h2 => by rw [e2]; exact c k h1 h2, fun k hk => ?_⟩
  · obtain ⟨q, q1, q2, q3⟩ := a4 k hk
    obtain ⟨q', d1, d2⟩ := d k hk
    have : q = q' := by rw [q1] at d1; injection d1
    subst this
    exact ⟨q, by rw [e2]; exact q1, q2.fv f (fun a k z => Or.inl (n a k z)) (w q q3 d2) q3, q3⟩
  · rw [e2]; exact d k hk
theorem GDI.fv (s : GDI h A I) (f : FV h h' S V) (w : ∀ a k, 19 ≤ a → a ≤ 26 → ¬ S a k) : GDI h' A I := by
  obtain ⟨⟨b, s1⟩, ⟨c, s2⟩, ⟨c', s3⟩, b', s4⟩ := s
  exact ⟨⟨b, s1.fv f fun a k z => w a k (by have := z.1; omega) (by have := z.2; omega)⟩, ⟨c, s2.fv f fun k => w 22 k (by omega) (by omega)⟩, ⟨c', s3.fv f fun k => w 26 k (by omega) (by omega)⟩, b', by rw [f.ci (w 23 5 (by omega) (by omega))]; exact s4⟩
theorem PRF.fv (s : PRF h pc pa pb) (f : FV h h' S V) (w : ∀ a k, 28 ≤ a → a ≤ 30 → ¬ S a k) : PRF h' pc pa pb := by
  have e : ∀ a k, 28 ≤ a → a ≤ 30 → ah_i h' a k = ah_i h a k := fun a k h1 h2 => f.ci (w a k h1 h2)
  unfold PRF at *
  simp (disch := omega) only [e]
  exact s
theorem CSH.fv {P : PG} (s : CSH h P T F) (f : FV h h' S V) (n0 : ∀ k, 13 ≤ k → ¬ S 0 k) (n46 : ∀ k, ¬ S 46 k) (n47 : ∀ k, ¬ S 47 k) : CSH h' P T F := by
  have e0 : ∀ k, 13 ≤ k → ah_i h' 0 k = ah_i h 0 k := fun k hk => f.ci (n0 k hk)
  have e46 : ∀ k, ah_i h' 46 k = ah_i h 46 k := fun k => f.ci (n46 k)
  have e47 : ∀ k, ah_l h' 47 k = ah_l h 47 k := fun k => f.cl (n47 k)
  unfold CSH SRC CHP FD at *
  simp (disch := omega) only [e0, e46, e47]
  exact s
/-- what the questions need outlives what touches none of their cells -/
theorem QI.fv (s : QI h Ro A I X T F) (rl : RUL h r m Ro) (ir : irs Ro m A I) (f : FV h h' S V) (n : ∀ a k, V a k → V0 a k ∧ a ≠ 32 ∧ a ≠ 2) (n0 : ∀ k, 13 ≤ k → ¬ S 0 k) (n27 : ∀ k, ¬ S 27 k) (n19 : ¬ S 19 1) (w : ∀ a k, 31 ≤ a → a ≤ 39 → ¬ S a k) (n46 : ∀ k, ¬ S 46 k) (n47 : ∀ k, ¬ S 47 k) (wr : ∀ q, rpl q → q + 15 < r → ∀ j k, j < 16 → ¬ S (q + j) k) : QI h' Ro A I X T F := by
  obtain ⟨⟨⟨c1, ⟨⟨a1, a2, a3, a4, a5, a6, a7, a8⟩, b1, b2⟩, c3⟩, x, g, q⟩, e⟩ := s
  have ei : ∀ a k, 31 ≤ a → a ≤ 39 → ah_i h' a k = ah_i h a k := fun a k h1 h2 => f.ci (w a k h1 h2)
  have el : ∀ a k, 31 ≤ a → a ≤ 39 → ah_l h' a k = ah_l h a k := fun a k h1 h2 => f.cl (w a k h1 h2)
  have r32 : ∀ k, ah_r h' 32 k = ah_r h 32 k := fun k => f.cr fun z => (n _ _ z).2.1 rfl
  have r2 : ∀ k, ah_r h' 2 k = ah_r h 2 k := fun k => f.cr fun z => (n _ _ z).2.2 rfl
  refine ⟨⟨⟨c1.fv f fun a k z => (n a k z).1, ⟨⟨?_, ?_, ?_, ?_, ?_, ?_, ?_, fun i hi => ?_⟩, fun s hs => ?_, fun p hp => ?_⟩, c3⟩, ?_, ?_, q.fv f n0 n46 n47⟩, fun i hi => ?_⟩
  · rw [ei _ _ (by omega) (by omega)]; exact a1
  · rw [ei _ _ (by omega) (by omega)]; exact a2
  · rw [el _ _ (by omega) (by omega)]; exact a3
  · rw [el _ _ (by omega) (by omega)]; exact a4
  · rw [el _ _ (by omega) (by omega)]; exact a5
  · rw [el _ _ (by omega) (by omega)]; exact a6
  · rw [el _ _ (by omega) (by omega)]; exact a7
  · obtain ⟨v1, v2, v3, v4, y, v5, u⟩ := a8 i hi
    obtain ⟨hn, _⟩ := ir i hi
    obtain ⟨y', y1, y2, y3⟩ := rl.1.2.2.2 _ hn
    obtain ⟨y'', z1, z2⟩ := rl.2.2.2 _ hn
    have e1 := (v5.symm.trans (e i hi)).trans y1
    have e2 := y1.symm.trans z1
    injection e1 with e1
    injection e2 with e2
    subst e1
    subst e2
    have yi : ∀ j k, j < 16 → ah_i h' (y + j) k = ah_i h (y + j) k := fun j k hj => f.ci (wr y y3 z2 j k hj)
    have y32 : y = 3 ∨ 70 ≤ y := y3
    have yr : ∀ k, ah_r h' y k = ah_r h y k := fun k => f.cr fun z => by have := (n _ _ z).1; unfold V0 at this; omega
    refine ⟨by rw [ei _ _ (by omega) (by omega)]; exact v1, by rw [ei _ _ (by omega) (by omega)]; exact v2, by rw [ei _ _ (by omega) (by omega)]; exact v3, fun q a ha => by rw [el _ _ (by omega) (by omega)]; exact v4 q a ha, y, by rw [r32]; exact v5, ?_⟩
    unfold RuI at *
    simp (disch := omega) only [f.2.2.1, yi, yr]
    exact u
  · rw [el _ _ (by omega) (by omega)]; exact b1 s hs
  · rw [el _ _ (by omega) (by omega), el _ _ (by omega) (by omega)]; exact b2 p hp
  · unfold EX at *
    rw [f.ci (n27 _), f.ci (n27 _), f.ci (n27 _)]; exact x
  · rw [f.ci n19]; exact g
  · rw [r32, r2]; exact e i hi
end INVS

