/-! CALLS OF BOTH SIDES: 19 TO 33 -/
section OPS
variable {sc : (Nat → Int32) × Nat} {h : AH} {P : PG} {T F : Nat}
theorem rkr_u {pc : Nat} {pa pb : Nat → Nat} {s : Nat} {v v' : Int32} (a : rkr P T F pc pa pb s v) (b : rkr P T F pc pa pb s v') : v = v' := by
  rcases a with ⟨a1, a2⟩ | ⟨a1, a2, a3⟩ | ⟨a1, a2, a3⟩ <;> rcases b with ⟨b1, b2⟩ | ⟨b1, b2, b3⟩ | ⟨b1, b2, b3⟩
  · rw [a2, b2]
  · exact absurd b1 a1
  · exact absurd b1 a1
  · exact absurd a1 b1
  · rw [a3, b3]
  · exact absurd a2 b2
  · exact absurd a1 b1
  · exact absurd b2 a2
  · rw [a3, b3]
theorem barr_u {a : Nat} {v v' : Int32} (x : barr P T F a v) (y : barr P T F a v') : v = v' := by
  rcases x with ⟨a1, a2⟩ | ⟨a1, a2, a3⟩ | ⟨a1, i, a2, a3, a4⟩ <;> rcases y with ⟨b1, b2⟩ | ⟨b1, b2, b3⟩ | ⟨b1, j, b2, b3, b4⟩
  · rw [a2, b2]
  · exact absurd a1 b1
  · exact absurd a1 b1
  · exact absurd b1 a1
  · rw [a3, b3]
  · rw [a2, Nat.zero_testBit] at b3; exact Bool.noConfusion b3
  · exact absurd b1 a1
  · rw [b2, Nat.zero_testBit] at a3; exact Bool.noConfusion a3
  · rcases Nat.lt_trichotomy i j with q | q | q
    · have := b4 i q; rw [this] at a3; exact Bool.noConfusion a3
    · rw [a2, b2, q]
    · have := a4 j q; rw [this] at b3; exact Bool.noConfusion b3
theorem cmt_sub {x b : Nat} (hb : b &&& x = b) (c : cmt P T F x) : cmt P T F b := by
  obtain ⟨s, h1, h2⟩ := c
  refine ⟨s, h1, ?_⟩
  have hs : ∀ i, b.testBit i = true → x.testBit i = true := fun i q => by
    have := congrArg (fun z => z.testBit i) hb
    simp only [Nat.testBit_and, q, Bool.true_and] at this
    exact this
  unfold mee at *
  rw [Bool.and_eq_true, decide_eq_true_eq, decide_eq_true_eq] at *
  obtain ⟨m1, m2⟩ := h2
  have e1 : ∀ i, (x % 4096).testBit i = true → s.testBit i = true := fun i q => by
    have := congrArg (fun z => z.testBit i) m1
    simp only [dif_tb, q, Bool.true_and, Nat.zero_testBit] at this
    simpa using this
  have e2 : ∀ i, (x / 4096).testBit i = true → s.testBit i = false := fun i q => by
    have := congrArg (fun z => z.testBit i) m2
    simp only [Nat.testBit_and, q, Bool.true_and, Nat.zero_testBit] at this
    exact this
  have l1 : ∀ i, (b % 4096).testBit i = true → (x % 4096).testBit i = true := fun i q => by
    rw [show (4096 : Nat) = 2 ^ 12 from rfl, Nat.testBit_mod_two_pow, Bool.and_eq_true] at q ⊢
    exact ⟨q.1, hs i q.2⟩
  have l2 : ∀ i, (b / 4096).testBit i = true → (x / 4096).testBit i = true := fun i q => by
    rw [show (4096 : Nat) = 2 ^ 12 from rfl, Nat.testBit_div_two_pow] at q ⊢
    exact hs _ q
  constructor
  · apply Nat.eq_of_testBit_eq
    intro i
    rw [dif_tb, Nat.zero_testBit]
    cases q : (b % 4096).testBit i
    · rw [Bool.false_and]
    · rw [e1 i (l1 i q)]; rfl
  · apply Nat.eq_of_testBit_eq
    intro i
    rw [Nat.testBit_and, Nat.zero_testBit]
    cases q : (b / 4096).testBit i
    · rw [Bool.false_and]
    · rw [e2 i (l2 i q)]; rfl
theorem lcf_u {x b b' : Nat} (a : lcf P T F x b) (a' : lcf P T F x b') : b = b' := by
  have h1 := a.2.2 b' a'.1 a'.2.1
  have h2 := a'.2.2 b a.1 a.2.1
  unfold ils at h1 h2
  rw [decide_eq_false_iff_not] at h1 h2
  omega
def cfG (P : PG) (T F x : Nat) (v : Int32) : Prop := v = -1 ∧ cmt P T F x ∨ ∃ z : Nat, v = nI z ∧ lcf P T F x z
theorem cfG_u {x : Nat} {v v' : Int32} (a : cfG P T F x v) (b : cfG P T F x v') : v = v' := by
  rcases a with ⟨rfl, a⟩ | ⟨z, rfl, a⟩ <;> rcases b with ⟨rfl, b⟩ | ⟨y, rfl, b⟩
  · rfl
  · exact absurd (cmt_sub b.1 a) b.2.1
  · exact absurd (cmt_sub a.1 b) a.2.1
  · rw [lcf_u a b]
theorem op_19 (iv : INVA h) : opN sc 20 127 h := by
  obtain ⟨np, pl, R, m, Ro, A, I, X, T, F, pc, pa, pb, r, p, c, s, o⟩ := iv
  have hp := c.1.1
  have q0 := c.2.2.2.2.2.1.1
  have pf := c.2.2.2.2.2.2
  have n12 : P_n (PGo Ro A I) ≤ 12 := p.ok.1
  have pn : 2 ^ P_n (PGo Ro A I) ≤ 4096 := p2_le (n := 12) n12
  have cl := cnt_le (aset (PGo Ro A I) T F) 4096
  exact opN_q p c s o (TC_mono (d_20 q0) fun q h' z => ⟨z.2, z.1⟩) (fun hx mq _ => TC_mono (m_127 mq) fun q h' z => ⟨z.2, z.1⟩)
theorem op_20 (iv : INVA h) : opN sc 21 128 h := by
  obtain ⟨np, pl, R, m, Ro, A, I, X, T, F, pc, pa, pb, r, p, c, s, o⟩ := iv
  have hp := c.1.1
  have q0 := c.2.2.2.2.2.1.1
  have pf := c.2.2.2.2.2.2
  have n12 : P_n (PGo Ro A I) ≤ 12 := p.ok.1
  have pn : 2 ^ P_n (PGo Ro A I) ≤ 4096 := p2_le (n := 12) n12
  have cl := cnt_le (aset (PGo Ro A I) T F) 4096
  exact opN_q p c s o (TC_mono (d_21 q0) fun q h' z => ⟨z.2, z.1⟩) (fun hx mq _ => TC_mono (m_128 mq) fun q h' z => ⟨z.2, z.1⟩)
theorem op_27 (iv : INVA h) : opN sc 28 140 h := by
  obtain ⟨np, pl, R, m, Ro, A, I, X, T, F, pc, pa, pb, r, p, c, s, o⟩ := iv
  have hp := c.1.1
  have q0 := c.2.2.2.2.2.1.1
  have pf := c.2.2.2.2.2.2
  have n12 : P_n (PGo Ro A I) ≤ 12 := p.ok.1
  have pn : 2 ^ P_n (PGo Ro A I) ≤ 4096 := p2_le (n := 12) n12
  have cl := cnt_le (aset (PGo Ro A I) T F) 4096
  exact opN_q p c s o (TC_mono (d_28 q0) fun q h' z => ⟨z.2, z.1⟩) (fun hx mq _ => TC_mono (m_140 mq) fun q h' z => ⟨z.2, z.1⟩)
theorem op_28 (iv : INVA h) : opN sc 29 141 h := by
  obtain ⟨np, pl, R, m, Ro, A, I, X, T, F, pc, pa, pb, r, p, c, s, o⟩ := iv
  have hp := c.1.1
  have q0 := c.2.2.2.2.2.1.1
  have pf := c.2.2.2.2.2.2
  have n12 : P_n (PGo Ro A I) ≤ 12 := p.ok.1
  have pn : 2 ^ P_n (PGo Ro A I) ≤ 4096 := p2_le (n := 12) n12
  have cl := cnt_le (aset (PGo Ro A I) T F) 4096
  exact opN_q p c s o (TC_mono (d_29 q0) fun q h' z => ⟨z.2, z.1⟩) (fun hx mq _ => TC_mono (m_141 mq) fun q h' z => ⟨z.2, z.1⟩)
theorem op_21 (iv : INVA h) (p0 : Int32) : opI sc 266 129 [.ref 0, .int p0, .ref 69] [.ref 49, .int p0] h := by
  obtain ⟨np, pl, R, m, Ro, A, I, X, T, F, pc, pa, pb, r, p, c, s, o⟩ := iv
  have hp := c.1.1
  have q0 := c.2.2.2.2.2.1.1
  have pf := c.2.2.2.2.2.2
  have n12 : P_n (PGo Ro A I) ≤ 12 := p.ok.1
  have pn : 2 ^ P_n (PGo Ro A I) ≤ 4096 := p2_le (n := 12) n12
  have cl := cnt_le (aset (PGo Ro A I) T F) 4096
  have W := fun Q => w_266 (sc := sc) (d := 59) (h := h) (Q := Q) hp p0
  by_cases h1 : vp_in p0 (cnt (aset (PGo Ro A I) T F) 4096)
  · obtain ⟨i, hi, rfl⟩ := vp_in_of h1 (by omega)
    exact opI_q (G := fun v => v = _) p c s o W (TC_mono (d_22 q0 hi) fun q h' z => ⟨z.2, _, z.1, rfl⟩) (fun hx mq _ => TC_mono (m_129 mq hi) fun q h' z => ⟨z.2, _, z.1, rfl⟩) (fun v v' a b => a.trans b.symm)
  · exact opI_qr (E := 2) p c s o W (by omega) (d_22n q0 h1) (fun hx mq => m_129n mq h1)
theorem op_22 (iv : INVA h) (p0 p1 : Int32) : opI sc 267 131 [.ref 0, .int p0, .int p1, .ref 69] [.ref 49, .int p0, .int p1] h := by
  obtain ⟨np, pl, R, m, Ro, A, I, X, T, F, pc, pa, pb, r, p, c, s, o⟩ := iv
  have hp := c.1.1
  have q0 := c.2.2.2.2.2.1.1
  have pf := c.2.2.2.2.2.2
  have n12 : P_n (PGo Ro A I) ≤ 12 := p.ok.1
  have pn : 2 ^ P_n (PGo Ro A I) ≤ 4096 := p2_le (n := 12) n12
  have cl := cnt_le (aset (PGo Ro A I) T F) 4096
  have W := fun Q => w_267 (sc := sc) (d := 59) (h := h) (Q := Q) hp p0 p1
  by_cases h1 : vp_in p0 (2 ^ P_n (PGo Ro A I))
  · obtain ⟨a, ha, rfl⟩ := vp_in_of h1 (by omega)
    by_cases h2 : vp_in p1 (2 ^ P_n (PGo Ro A I))
    · obtain ⟨b, hb, rfl⟩ := vp_in_of h2 (by omega)
      exact opI_q (G := fun v => v = _) p c s o W (TC_mono (d_23 q0 ha hb) fun q h' z => ⟨z.2, _, z.1, rfl⟩) (fun hx mq _ => TC_mono (m_131 mq ha hb) fun q h' z => ⟨z.2, _, z.1, rfl⟩) (fun v v' a b => a.trans b.symm)
    · exact opI_qr (E := 0) p c s o W (by omega) (d_23b q0 ha h2) (fun hx mq => m_131b mq ha h2)
  · exact opI_qr (E := 0) p c s o W (by omega) (d_23a q0 h1) (fun hx mq => m_131a mq h1)
theorem op_23 (iv : INVA h) (p0 p1 : Int32) : opI sc 268 132 [.ref 0, .int p0, .int p1, .ref 69] [.ref 49, .int p0, .int p1] h := by
  obtain ⟨np, pl, R, m, Ro, A, I, X, T, F, pc, pa, pb, r, p, c, s, o⟩ := iv
  have hp := c.1.1
  have q0 := c.2.2.2.2.2.1.1
  have pf := c.2.2.2.2.2.2
  have n12 : P_n (PGo Ro A I) ≤ 12 := p.ok.1
  have pn : 2 ^ P_n (PGo Ro A I) ≤ 4096 := p2_le (n := 12) n12
  have cl := cnt_le (aset (PGo Ro A I) T F) 4096
  have W := fun Q => w_268 (sc := sc) (d := 59) (h := h) (Q := Q) hp p0 p1
  by_cases h1 : vp_in p0 (2 ^ P_n (PGo Ro A I))
  · obtain ⟨a, ha, rfl⟩ := vp_in_of h1 (by omega)
    by_cases h2 : vp_in p1 (2 ^ P_n (PGo Ro A I))
    · obtain ⟨b, hb, rfl⟩ := vp_in_of h2 (by omega)
      by_cases h8 : pop a 12 + pop b 12 ≤ 8
      · refine opI_q (G := cfG (PGo Ro A I) T F (a + 4096 * b)) p c s o W (TC_mono (d_24 q0 ha hb h8) ?_) (fun hx mq _ => TC_mono (m_132 mq ha hb h8) ?_) (fun v v' x y => cfG_u x y)
        · rintro q h' ⟨z1, ⟨rfl, z2⟩ | ⟨z, rfl, z2⟩⟩
          · exact ⟨z1, _, rfl, Or.inl ⟨rfl, z2⟩⟩
          · exact ⟨z1, _, rfl, Or.inr ⟨z, rfl, z2⟩⟩
        · rintro q h' ⟨z1, ⟨rfl, z2⟩ | ⟨z, rfl, z2⟩⟩
          · exact ⟨z1, _, rfl, Or.inl ⟨rfl, z2⟩⟩
          · exact ⟨z1, _, rfl, Or.inr ⟨z, rfl, z2⟩⟩
      · exact opI_qr (E := 0) p c s o W (by omega) (d_24c q0 ha hb (by omega)) (fun hx mq => m_132c mq ha hb (by omega))
    · exact opI_qr (E := 0) p c s o W (by omega) (d_24b q0 ha h2) (fun hx mq => m_132b mq ha h2)
  · exact opI_qr (E := 0) p c s o W (by omega) (d_24a q0 h1) (fun hx mq => m_132a mq h1)
theorem op_24 (iv : INVA h) (p0 p1 : Int32) : opL sc 269 134 [.ref 0, .int p0, .int p1, .ref 69] [.ref 49, .int p0, .int p1] h := by
  obtain ⟨np, pl, R, m, Ro, A, I, X, T, F, pc, pa, pb, r, p, c, s, o⟩ := iv
  have hp := c.1.1
  have q0 := c.2.2.2.2.2.1.1
  have pf := c.2.2.2.2.2.2
  have n12 : P_n (PGo Ro A I) ≤ 12 := p.ok.1
  have pn : 2 ^ P_n (PGo Ro A I) ≤ 4096 := p2_le (n := 12) n12
  have cl := cnt_le (aset (PGo Ro A I) T F) 4096
  have W := fun Q => w_269 (sc := sc) (d := 59) (h := h) (Q := Q) hp p0 p1
  by_cases h1 : vp_in p0 (cnt (aset (PGo Ro A I) T F) 4096)
  · obtain ⟨i, hi, rfl⟩ := vp_in_of h1 (by omega)
    by_cases h2 : vp_in p1 3
    · obtain ⟨l, hl, rfl⟩ := vp_in_of h2 (by omega)
      exact opL_q (G := fun v => v = _) p c s o W (TC_mono (d_25 q0 hi hl) fun q h' z => ⟨z.2, _, z.1, rfl⟩) (fun hx mq _ => TC_mono (m_134 mq hi hl) fun q h' z => ⟨z.2, _, z.1, rfl⟩) (fun v v' a b => a.trans b.symm)
    · exact opL_qr (E := 2) p c s o W (by omega) (d_25m q0 hi h2) (fun hx mq => m_134m mq hi h2)
  · exact opL_qr (E := 2) p c s o W (by omega) (d_25n q0 h1) (fun hx mq => m_134n mq h1)
theorem op_29 (iv : INVA h) (p0 p1 : Int32) : opI sc 272 142 [.ref 0, .int p0, .int p1, .ref 69] [.ref 49, .int p0, .int p1] h := by
  obtain ⟨np, pl, R, m, Ro, A, I, X, T, F, pc, pa, pb, r, p, c, s, o⟩ := iv
  have hp := c.1.1
  have q0 := c.2.2.2.2.2.1.1
  have pf := c.2.2.2.2.2.2
  have n12 : P_n (PGo Ro A I) ≤ 12 := p.ok.1
  have pn : 2 ^ P_n (PGo Ro A I) ≤ 4096 := p2_le (n := 12) n12
  have cl := cnt_le (aset (PGo Ro A I) T F) 4096
  have W := fun Q => w_272 (sc := sc) (d := 59) (h := h) (Q := Q) hp p0 p1
  by_cases h1 : vp_in p0 (cnt (aset (PGo Ro A I) T F) 4096)
  · obtain ⟨i, hi, rfl⟩ := vp_in_of h1 (by omega)
    by_cases h2 : vp_in p1 4
    · obtain ⟨l, hl, rfl⟩ := vp_in_of h2 (by omega)
      exact opI_q (G := fun v => v = _) p c s o W (TC_mono (d_30 q0 hi hl) fun q h' z => ⟨z.2, _, z.1, rfl⟩) (fun hx mq _ => TC_mono (m_142 mq hi hl) fun q h' z => ⟨z.2, _, z.1, rfl⟩) (fun v v' a b => a.trans b.symm)
    · exact opI_qr (E := 2) p c s o W (by omega) (d_30m q0 hi h2) (fun hx mq => m_142m mq hi h2)
  · exact opI_qr (E := 2) p c s o W (by omega) (d_30n q0 h1) (fun hx mq => m_142n mq h1)
theorem op_30 (iv : INVA h) (p0 p1 : Int32) : opI sc 273 143 [.ref 0, .int p0, .int p1, .ref 69] [.ref 49, .int p0, .int p1] h := by
  obtain ⟨np, pl, R, m, Ro, A, I, X, T, F, pc, pa, pb, r, p, c, s, o⟩ := iv
  have hp := c.1.1
  have q0 := c.2.2.2.2.2.1.1
  have pf := c.2.2.2.2.2.2
  have n12 : P_n (PGo Ro A I) ≤ 12 := p.ok.1
  have pn : 2 ^ P_n (PGo Ro A I) ≤ 4096 := p2_le (n := 12) n12
  have cl := cnt_le (aset (PGo Ro A I) T F) 4096
  have W := fun Q => w_273 (sc := sc) (d := 59) (h := h) (Q := Q) hp p0 p1
  by_cases h1 : vp_in p0 (cnt (aset (PGo Ro A I) T F) 4096)
  · obtain ⟨i, hi, rfl⟩ := vp_in_of h1 (by omega)
    by_cases h2 : vp_in p1 (P_n (PGo Ro A I))
    · obtain ⟨l, hl, rfl⟩ := vp_in_of h2 (by omega)
      exact opI_q (G := fun v => v = _) p c s o W (TC_mono (d_31 q0 hi hl) fun q h' z => ⟨z.2, _, z.1, rfl⟩) (fun hx mq _ => TC_mono (m_143 mq hi hl) fun q h' z => ⟨z.2, _, z.1, rfl⟩) (fun v v' a b => a.trans b.symm)
    · exact opI_qr (E := 2) p c s o W (by omega) (d_31m q0 hi h2) (fun hx mq => m_143m mq hi h2)
  · exact opI_qr (E := 2) p c s o W (by omega) (d_31n q0 h1) (fun hx mq => m_143n mq h1)
theorem op_25 (iv : INVA h) (p0 : Int32) : opI sc 270 138 [.ref 0, .int p0, .ref 69] [.ref 49, .int p0] h := by
  obtain ⟨np, pl, R, m, Ro, A, I, X, T, F, pc, pa, pb, r, p, c, s, o⟩ := iv
  have hp := c.1.1
  have q0 := c.2.2.2.2.2.1.1
  have pf := c.2.2.2.2.2.2
  have n12 : P_n (PGo Ro A I) ≤ 12 := p.ok.1
  have pn : 2 ^ P_n (PGo Ro A I) ≤ 4096 := p2_le (n := 12) n12
  have cl := cnt_le (aset (PGo Ro A I) T F) 4096
  have W := fun Q => w_270 (sc := sc) (d := 59) (h := h) (Q := Q) hp p0
  by_cases h1 : vp_in p0 (cnt (aset (PGo Ro A I) T F) 4096)
  · obtain ⟨i, hi, rfl⟩ := vp_in_of h1 (by omega)
    exact opI_q (G := rkr (PGo Ro A I) T F pc pa pb (nths (aset (PGo Ro A I) T F) i 4096)) p c s o W (d_26 q0 pf hi) (fun hx mq pm => m_138 mq pm hi) (fun v v' x y => rkr_u x y)
  · exact opI_qr (E := 2) p c s o W (by omega) (d_26n q0 h1) (fun hx mq => m_138n mq h1)
theorem op_26 (iv : INVA h) (p0 : Int32) : opI sc 271 139 [.ref 0, .int p0, .ref 69] [.ref 49, .int p0] h := by
  obtain ⟨np, pl, R, m, Ro, A, I, X, T, F, pc, pa, pb, r, p, c, s, o⟩ := iv
  have hp := c.1.1
  have q0 := c.2.2.2.2.2.1.1
  have pf := c.2.2.2.2.2.2
  have n12 : P_n (PGo Ro A I) ≤ 12 := p.ok.1
  have pn : 2 ^ P_n (PGo Ro A I) ≤ 4096 := p2_le (n := 12) n12
  have cl := cnt_le (aset (PGo Ro A I) T F) 4096
  have W := fun Q => w_271 (sc := sc) (d := 59) (h := h) (Q := Q) hp p0
  by_cases h1 : vp_in p0 (2 ^ P_n (PGo Ro A I))
  · obtain ⟨i, hi, rfl⟩ := vp_in_of h1 (by omega)
    exact opI_q (G := fun v => v = _) p c s o W (TC_mono (d_27 q0 hi) fun q h' z => ⟨z.2, _, z.1, rfl⟩) (fun hx mq _ => TC_mono (m_139 mq hi) fun q h' z => ⟨z.2, _, z.1, rfl⟩) (fun v v' a b => a.trans b.symm)
  · exact opI_qr (E := 0) p c s o W (by omega) (d_27n q0 h1) (fun hx mq => m_139n mq h1)
theorem op_31 (iv : INVA h) (p0 : Int32) : opI sc 274 145 [.ref 0, .int p0, .ref 69] [.ref 49, .int p0] h := by
  obtain ⟨np, pl, R, m, Ro, A, I, X, T, F, pc, pa, pb, r, p, c, s, o⟩ := iv
  have hp := c.1.1
  have q0 := c.2.2.2.2.2.1.1
  have pf := c.2.2.2.2.2.2
  have n12 : P_n (PGo Ro A I) ≤ 12 := p.ok.1
  have pn : 2 ^ P_n (PGo Ro A I) ≤ 4096 := p2_le (n := 12) n12
  have cl := cnt_le (aset (PGo Ro A I) T F) 4096
  have W := fun Q => w_274 (sc := sc) (d := 59) (h := h) (Q := Q) hp p0
  by_cases h1 : vp_in p0 (P_n (PGo Ro A I))
  · obtain ⟨i, hi, rfl⟩ := vp_in_of h1 (by omega)
    exact opI_q (G := barr (PGo Ro A I) T F i) p c s o W (d_32 q0 hi) (fun hx mq pm => m_145 mq hi) (fun v v' x y => barr_u x y)
  · exact opI_qr (E := 2) p c s o W (by omega) (d_32n q0 h1) (fun hx mq => m_145n mq h1)
theorem op_32 (iv : INVA h) (p0 : Int32) : opI sc 275 147 [.ref 0, .int p0, .ref 69] [.ref 49, .int p0] h := by
  obtain ⟨np, pl, R, m, Ro, A, I, X, T, F, pc, pa, pb, r, p, c, s, o⟩ := iv
  have hp := c.1.1
  have q0 := c.2.2.2.2.2.1.1
  have pf := c.2.2.2.2.2.2
  have n12 : P_n (PGo Ro A I) ≤ 12 := p.ok.1
  have pn : 2 ^ P_n (PGo Ro A I) ≤ 4096 := p2_le (n := 12) n12
  have cl := cnt_le (aset (PGo Ro A I) T F) 4096
  have W := fun Q => w_275 (sc := sc) (d := 59) (h := h) (Q := Q) hp p0
  by_cases h1 : vp_in p0 (P_n (PGo Ro A I))
  · obtain ⟨i, hi, rfl⟩ := vp_in_of h1 (by omega)
    exact opI_q (G := fun v => v = _) p c s o W ((d_33 q0 hi).mpr ⟨⟨FR.refl _ _, q0⟩, _, rfl, rfl⟩) (fun hx mq _ => TC_mono (m_147 mq hi) fun q h' z => ⟨z.2, _, z.1, rfl⟩) (fun v v' a b => a.trans b.symm)
  · exact opI_qr (E := 2) p c s o W (by omega) (d_33n q0 h1) (fun hx mq => m_147n mq h1)
theorem op_33 (iv : INVA h) (p0 : Int32) : opI sc 276 149 [.ref 0, .int p0, .ref 69] [.ref 49, .int p0] h := by
  obtain ⟨np, pl, R, m, Ro, A, I, X, T, F, pc, pa, pb, r, p, c, s, o⟩ := iv
  have hp := c.1.1
  have q0 := c.2.2.2.2.2.1.1
  have pf := c.2.2.2.2.2.2
  have n12 : P_n (PGo Ro A I) ≤ 12 := p.ok.1
  have pn : 2 ^ P_n (PGo Ro A I) ≤ 4096 := p2_le (n := 12) n12
  have cl := cnt_le (aset (PGo Ro A I) T F) 4096
  have W := fun Q => w_276 (sc := sc) (d := 59) (h := h) (Q := Q) hp p0
  by_cases h1 : vp_in p0 (2 ^ P_n (PGo Ro A I))
  · obtain ⟨i, hi, rfl⟩ := vp_in_of h1 (by omega)
    exact opI_q (G := fun v => v = _) p c s o W (TC_mono (d_34 q0 hi) fun q h' z => ⟨z.2, _, z.1, rfl⟩) (fun hx mq _ => TC_mono (m_149 mq hi) fun q h' z => ⟨z.2, _, z.1, rfl⟩) (fun v v' a b => a.trans b.symm)
  · exact opI_qr (E := 0) p c s o W (by omega) (d_34n q0 h1) (fun hx mq => m_149n mq h1)
end OPS
