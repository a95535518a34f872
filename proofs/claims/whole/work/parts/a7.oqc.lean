/-! CALLS OF BOTH SIDES: 12 -/
theorem idx_mid {A B : List Nat} {x : Nat} (nd : (A ++ [x] ++ B).Nodup) : idx (A ++ [x] ++ B) x = A.length + 1 := by
  have len : A.length < (A ++ [x] ++ B).length := by
    rw [List.length_append, List.length_append, List.length_singleton]; omega
  have lx : lat (A ++ [x] ++ B) A.length = x := by
    rw [lat_app (by rw [List.length_append, List.length_singleton]; omega), lat_new]
  have mem : x ∈ A ++ [x] ++ B := by
    have := lat_mem len
    rw [lx] at this
    exact this
  obtain ⟨h1, h2, h3⟩ := idx_i mem
  rcases Nat.lt_trichotomy (idx (A ++ [x] ++ B) x - 1) A.length with q | q | q
  · exact absurd (h3.trans lx.symm) (lat_inj nd q len)
  · omega
  · exact absurd (lx.trans h3.symm) (lat_inj nd q (by omega))
section OPS
variable {sc : (Nat → Int32) × Nat} {h h' : AH} {np : Nat} {pl : Nat → Nat} {R : RW} {m : Nat} {Ro : Nat → RW} {A I : List Nat} {X T F pc : Nat} {pa pb : Nat → Nat} {r : Nat}
theorem OU.fv {S V : Nat → Nat → Prop} (o : OU h) (f : FV h h' S V) : OU h' := ⟨by rw [f.2.2.1]; exact o.1, by rw [f.2.2.2.1]; exact o.2⟩
theorem M107.s69 {k : Nat} {A' I' : List Nat} {q : Rs} (t : M107 h Ro X k A' I' q h') : ah_l h' 69 0 = ah_l h 69 0 := t.2.1.cl fun z => by have := z; unfold SXm S12 SR2 SR1 at this; omega
/-- 12: external -/
theorem op_12 (iv : INVA h) (p0 p1 p2 : Int32) : opI sc 261 107 [.ref 0, .int p0, .int p1, .int p2, .ref 69] [.ref 49, .int p0, .int p1, .int p2] h := by
  obtain ⟨np, pl, R, m, Ro, A, I, X, T, F, pc, pa, pb, r, p, c, s, o⟩ := iv
  have hp := c.1.1
  have n70 := c.1.2
  have W := fun Q => w_261 (sc := sc) (d := 59) (h := h) (Q := Q) hp p0 p1 p2
  have g := AG_th h
  have hpx := hp.ag g n70
  have plx := s.1.ag g n70
  have np6 := p.2.1
  by_cases h1 : vp_in p0 np
  · obtain ⟨p', hp1, rfl⟩ := vp_in_of h1 (by omega)
    cases ht : trmB pl p' (nI 0) p1 p2
    · exact opI_ref (E := 0) (k := 2) W (by omega) (by omega) (fun Q => d_13n hp c.2.1 hp1 ht) (fun Q => m_107n hpx plx hp1 ht) o n70 (INV_th p c s o 2)
    · obtain ⟨x, y, hx, hy, rfl, rfl⟩ := trm_c ht
      obtain ⟨b, gc⟩ := c.2.2.2.2.1.1
      have ca := c.2.2.2.2.1.2.1
      have ra := c.2.2.2.1.1
      have hm := c.2.2.2.1.2.1
      have x0 := c.2.2.2.2.2.1.1.2.1.1
      have a12 : A.length ≤ 12 := gc.1.2.1
      have nd : A.Nodup := p.2.2.2.1.1.1
      have xb : X < 4096 := Nat.lt_of_lt_of_le p.2.2.2.2.2.1 (p2_le (n := 12) a12)
      have ir := CIV.irs p
      by_cases mem : p' * 100 + x * 10 + y ∈ A
      · obtain ⟨i1, i2, i3⟩ := idx_i mem
        obtain ⟨k, e⟩ : ∃ k, idx A (p' * 100 + x * 10 + y) = k + 1 := ⟨idx A (p' * 100 + x * 10 + y) - 1, by omega⟩
        have hk : k < A.length := by omega
        have f1 : FR h (ap_i h 27 0 (nI (X ||| 2 ^ k))) (fun a j => a = 27 ∧ j = 0) := (FR.refl _ _).i ⟨rfl, rfl⟩
        have p2 : PIV np R m Ro A I (X ||| 2 ^ k) T F := ⟨p.1, p.2.1, p.2.2.1, GV_E (exA_mono (fun k hk => ⟨hk, rfl⟩) fun j q => by rw [Nat.testBit_or, q, Bool.true_or]) p.2.2.2.1, p.2.2.2.2.1, or_lt p.2.2.2.2.2.1 (p2_lt hk), p.2.2.2.2.2.2⟩
        have s27 := ss_27 hp
        have c2 : CIV (ap_i h 27 0 (nI (X ||| 2 ^ k))) np pl R m Ro A I (X ||| 2 ^ k) T F pc pa pb r := by
          refine c.x p (Nat.le_refl _) hk ((f1.v V32).mono (fun a j z => Or.inr (Or.inr (Or.inl z))) fun _ _ z => z) (GC_fr gc f1 fun a j z y => by have := z.2; omega) ?_ ?_ (fun i hi => c.2.2.2.2.2.1.2 i hi) ai_y (c.2.2.2.2.2.1.1.2.2.2.fv (f1.v fun _ _ => False) (fun k _ z => by omega) (fun k z => by omega) (fun k z => by omega))
          · obtain ⟨c0, ca⟩ := ca
            exact ⟨c0, ca.fr f1 fun k z => by omega⟩
          · refine c.2.2.2.2.2.1.1.1.fr f1 (fun a j z => ?_) (fun k z => by omega) (fun k z => by omega) (fun k z => by omega) (fun k z => by omega) (fun k z => by omega) (fun k z => by omega) (fun k z => by omega) (fun k z => by omega)
            rw [z.1, s27]; decide
        have s2 := s.cl (h' := ap_i h 27 0 (nI (X ||| 2 ^ k))) fun a j q1 q2 => ⟨f1.ci fun z => by omega, f1.cl fun z => by omega⟩
        have f := @f69 (ap_i h 27 0 (nI (X ||| 2 ^ k))) (nI k).toInt64
        have c3 := c2.mo p2 (f.mono fun a k z => by have : a = 69 := z; omega)
        have s3 := s2.cl (h' := ap_l (ap_i h 27 0 (nI (X ||| 2 ^ k))) 69 0 (nI k).toInt64) fun a j q1 q2 => ⟨f.ci fun z => by have : a = 69 := z; omega, f.cl fun z => by have : a = 69 := z; omega⟩
        refine ⟨0, by omega, W _ ((d_13y (d := 38) hp c.2.1 gc hp1 hx hy ht e x0).mpr ⟨o.fr f1, Or.inl ⟨_, rfl, rfl, TC_mono (m_107y (d := 39) c3.1.1 s3.1 s3.2.2.1.1 s3.2.2.1.2 s3.2.2.2.1.1 ir hp1 hx hy ht e s3.2.2.2.2.1.2.1.1 xb) ?_⟩⟩)⟩
        intro q2 h2 t
        have s4 := MIV.x p s3 (Nat.le_refl _) hk t
        have f2 := t.2.1
        refine ⟨⟨_, t.1, fun _ => t.s69.trans l69⟩, ⟨np, pl, R, m, Ro, A, I, X ||| 2 ^ k, T, F, pc, pa, pb, r, p2, c3.mo p2 (f2.mono fun a j z => by unfold SXm S12 SR2 SR1 at z; omega), s4, ((o.fr f1).fr f).fr f2⟩, t.2.2.2.2.2.1, ?_, ?_⟩
        · rw [f2.1, f.1, f1.1]; omega
        · rw [f2.2.1, f.2.1, f1.2.1]; omega
      · have K6 : p' * 100 + x * 10 + y < 600 := by omega
        by_cases good : A.length < 12 ∧ (gal Ro m 62 (A ++ [p' * 100 + x * 10 + y], I, true)).2.2 = true
        · obtain ⟨l, ok⟩ := good
          have Xg := gal_x Ro m 62 (A ++ [p' * 100 + x * 10 + y], I, true)
          have GVs : ∀ E : Nat → Prop, (∀ z, exA A X z → E z) → E (p' * 100 + x * 10 + y) → GV E Ro m (gal Ro m 62 (A ++ [p' * 100 + x * 10 + y], I, true)) ∧ gcl Ro m (gal Ro m 62 (A ++ [p' * 100 + x * 10 + y], I, true)) := fun E hE hx' => by
            have g0 := GV_x (GV_E hE p.2.2.2.1) mem K6 l hx'
            exact ⟨GV_al p.2.2.1 g0, GV_cl p.2.2.1 g0 ok⟩
          generalize hS : gal Ro m 62 (A ++ [p' * 100 + x * 10 + y], I, true) = S' at *
          obtain ⟨⟨B, e1⟩, ⟨J, e2⟩, _⟩ := Xg
          have e1 : S'.1 = A ++ [p' * 100 + x * 10 + y] ++ B := e1
          have hA : A.length ≤ S'.1.length := by rw [e1, List.length_append, List.length_append, List.length_singleton]; omega
          have hk : A.length < S'.1.length := by rw [e1, List.length_append, List.length_append, List.length_singleton]; omega
          have sub : ∀ k, k < A.length → k < S'.1.length ∧ lat S'.1 k = lat A k := fun k hk => ⟨by omega, by rw [e1, lat_app (by rw [List.length_append]; omega), lat_app hk]⟩
          have E1 : ∀ z, exA A X z → exA S'.1 (X ||| 2 ^ A.length) z := exA_mono sub fun j q => by rw [Nat.testBit_or, q, Bool.true_or]
          have E2 : exA S'.1 (X ||| 2 ^ A.length) (p' * 100 + x * 10 + y) := ⟨A.length, hk, by rw [Nat.testBit_or, tb_pow]; simp, by rw [e1, lat_app (by rw [List.length_append, List.length_singleton]; omega), lat_new]⟩
          obtain ⟨gv, cl⟩ := GVs _ E1 E2
          have ir' := irs_of p.2.2.1 gv
          have ide : idx S'.1 (p' * 100 + x * 10 + y) = A.length + 1 := by
            have := gv.1.1
            rw [e1] at this ⊢
            exact idx_mid this
          have eS : S' = (S'.1, S'.2.1, true) := by rw [← ok]
          have p2 : PIV np R m Ro S'.1 S'.2.1 (X ||| 2 ^ A.length) T F := ⟨p.1, p.2.1, p.2.2.1, by rw [← eS]; exact gv, by rw [← eS]; exact cl, or_lt (Nat.lt_of_lt_of_le p.2.2.2.2.2.1 (p2_le hA)) (p2_lt hk), Nat.lt_of_lt_of_le p.2.2.2.2.2.2.1 (p2_le hA), Nat.lt_of_lt_of_le p.2.2.2.2.2.2.2 (p2_le hA)⟩
          refine ⟨0, by omega, W _ (TC_mono (d_13 (d := 38) hp c.2.1 ra hm gc ca hp1 hx hy ht mem l hS ok ir' x0 ide) ?_)⟩
          rintro q h1 ⟨rfl, f1, g1, a1, cp, rf, x1, t13⟩
          have c2 : CIV h1 np pl R m Ro S'.1 S'.2.1 (X ||| 2 ^ A.length) T F pc pa pb r := c.x p hA hk f1 (by rw [eS] at g1; exact g1) a1 cp rf x1 (Or.inl t13)
          have s13 : ∀ a j, 49 ≤ a → ¬ S13 a j := fun a j q1 z => by unfold S13 SG S25 at z; omega
          have s2 := s.cl (h' := h1) fun a j q1 q2 => ⟨f1.ci (s13 a j q1), f1.cl (s13 a j q1)⟩
          have f := @f69 h1 (nI A.length).toInt64
          have c3 := c2.mo p2 (f.mono fun a k z => by have : a = 69 := z; omega)
          have s3 := s2.cl (h' := ap_l h1 69 0 (nI A.length).toInt64) fun a j q1 q2 => ⟨f.ci fun z => by have : a = 69 := z; omega, f.cl fun z => by have : a = 69 := z; omega⟩
          refine ⟨o.fv f1, Or.inl ⟨_, rfl, rfl, TC_mono (m_107 (d := 39) c3.1.1 s3.1 s3.2.2.1.1 s3.2.2.1.2 s3.2.2.2.1.1 hp1 hx hy ht mem l hS ok ir' ide s3.2.2.2.2.1.2.1.1 xb) ?_⟩⟩
          intro q2 h2 t
          have s4 := MIV.x p s3 hA hk t
          have f2 := t.2.1
          refine ⟨⟨_, t.1, fun _ => t.s69.trans l69⟩, ⟨np, pl, R, m, Ro, S'.1, S'.2.1, X ||| 2 ^ A.length, T, F, pc, pa, pb, r, p2, c3.mo p2 (f2.mono fun a j z => by unfold SXm S12 SR2 SR1 at z; omega), s4, ((o.fv f1).fr f).fr f2⟩, t.2.2.2.2.2.1, ?_, ?_⟩
          · rw [f2.1, f.1, f1.1]; omega
          · rw [f2.2.1, f.2.1, f1.2.1]; omega
        · have bad : A.length = 12 ∨ A.length < 12 ∧ (gal Ro m 62 (A ++ [p' * 100 + x * 10 + y], I, true)).2.2 = false := by
            by_cases l12 : A.length = 12
            · exact Or.inl l12
            · right
              refine ⟨by omega, ?_⟩
              cases q : (gal Ro m 62 (A ++ [p' * 100 + x * 10 + y], I, true)).2.2
              · rfl
              · exact absurd ⟨by omega, q⟩ good
          have nd' : A.length < 12 → (gal Ro m 62 (A ++ [p' * 100 + x * 10 + y], I, true)).1.Nodup := fun l => (GV_al p.2.2.1 (GV_x (E := fun _ => True) (GV_E (fun _ _ => trivial) p.2.2.2.1) mem K6 l trivial)).1.1
          refine ⟨3, by omega, W _ (TC_mono (d_13r (d := 38) hp c.2.1 ra hm gc ca hp1 hx hy ht mem bad) ?_)⟩
          rintro q hx2 ⟨rfl, h1, f1, g1, a1, rfl⟩
          have c1 := c.sg p f1 g1 a1
          have s1 := s.cl (h' := h1) fun a j q1 q2 => ⟨f1.ci fun z => by have := z.2; omega, f1.cl fun z => by have := z.2; omega⟩
          obtain ⟨c2, s2, o2, n2, u2⟩ := Q_mid p c1 s1 (o.fr f1) (Or.inr rfl)
          refine ⟨o2, Or.inr (wpX_of (k := 3) (by omega) (by omega) ⟨rfl, TC_mono (m_107f (d := 39) c2.1.1 s2.1 s2.2.2.1.1 s2.2.2.1.2 s2.2.2.2.1.1 hp1 hx hy ht mem nd bad nd') ?_⟩)⟩
          rintro q2 h2 ⟨rfl, f2, g2, t5, t0⟩
          have s3 := s2.s3 ir (f2.mono fun a k z => Or.inl z) g2 t5
          refine ⟨⟨_, rfl, fun z => absurd z (by omega)⟩, ⟨np, pl, R, m, Ro, A, I, X, T, F, pc, pa, pb, r, p, c2.mo p (f2.mono fun a j z => by unfold SR3 SR2 SR1 at z; omega), s3, o2.fr f2⟩, t0, ?_, ?_⟩
          · rw [f2.1]; have := f1.1; omega
          · rw [f2.2.1]; have := f1.2.1; omega
  · exact opI_ref (E := 2) (k := 1) W (by omega) (by omega) (fun Q => d_13p hp c.2.1 h1 p1 p2) (fun Q => m_107p hpx plx h1 p1 p2) o n70 (INV_th p c s o 1)
end OPS
