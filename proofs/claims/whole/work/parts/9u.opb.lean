/-! CALLS OF BOTH SIDES: THE DRAFT -/
section OPS
variable {sc : (Nat → Int32) × Nat} {h : AH}
theorem r_ne {r : Nat} (p : rpl r) : r = 3 ∨ 70 ≤ r := p
/-- 2: choice -/
theorem op_2 (iv : INVA h) (p0 p1 : Int32) : opV sc 252 72 [.ref 0, .int p0, .int p1] [.ref 49, .int p0, .int p1] h := by
  obtain ⟨np, pl, R, m, Ro, A, I, X, T, F, pc, pa, pb, r, p, c, s, o⟩ := iv
  have hp := c.1.1
  have n70 := c.1.2
  have W := fun Q => w_252 (sc := sc) (d := 59) (h := h) (Q := Q) hp p0 p1
  have g := AG_th h
  have hpx := hp.ag g n70
  have plx := s.1.ag g n70
  have mrx := s.2.1.ag g (by omega)
  have n3 := p.1.2.1 0 (by omega)
  have k3 := p.1.1
  have np6 := p.2.1
  have dr := c.2.2.1.1
  cases hc : choB p0 p1
  · exact opV_ref (E := 0) (k := 1) W (by omega) (by omega) (fun Q => d_3n hp hc) (fun Q => m_72n hpx hc) o n70 (INV_th p c s o 1)
  · by_cases h0 : R_kd R = 0
    · have fc : FR h (hCh h r p0 p1) (Sd r) := (((FR.refl _ _).i ⟨by omega, by omega⟩).i ⟨by omega, by omega⟩).i ⟨by omega, by omega⟩
      obtain ⟨m1, m2, m3, m4, m5⟩ := MIDc (h1 := hCh h r p0 p1) c s o fc (FR.refl _ _)
      refine opV_ok W (fun Q => d_3 hp dr hc h0) (fun Q => m_72 m1 m4 hc h0) m5 ?_ (INV_dr p c s o (ok_Ch p.1 hc) fc (ch_co dr.2.2.1 p0 p1) (FR.refl _ _) ((((FR.refl _ _).i (Or.inl ⟨rfl, rfl⟩)).i (Or.inr rfl)).i (Or.inr rfl) |>.i (Or.inr rfl)) (MRw_K m4 (fun j hj => ?_) ?_ fun j hj => ?_))
      · rw [ai_n (by omega), ai_n (by omega), ai_n (by omega), ai_y]
      · rw [ai_n (by omega), ai_n (by omega), ai_n (by omega), ai_n (by omega)]
      · rw [ai_n (by omega), ai_n (by omega), ai_y]
      · have g3 := m4.2.1
        have : j = 0 ∨ j = 1 ∨ j = 2 := by omega
        rcases this with rfl | rfl | rfl
        · rw [ai_n (by omega), ai_y]; rfl
        · rw [ai_y]; rfl
        · rw [ai_n (by omega), ai_n (by omega), ai_n (by omega), ai_n (by omega)]; exact g3 2 (by omega)
    · exact opV_ref (E := 1) (k := 2) W (by omega) (by omega) (fun Q => d_3k hp dr hc k3 h0) (fun Q => m_72k hpx mrx hc k3 h0) o n70 (INV_th p c s o 2)
/-- 3: weak -/
theorem op_3 (iv : INVA h) (p0 p1 : Int32) : opV sc 253 74 [.ref 0, .int p0, .int p1] [.ref 49, .int p0, .int p1] h := by
  obtain ⟨np, pl, R, m, Ro, A, I, X, T, F, pc, pa, pb, r, p, c, s, o⟩ := iv
  have hp := c.1.1
  have n70 := c.1.2
  have W := fun Q => w_253 (sc := sc) (d := 59) (h := h) (Q := Q) hp p0 p1
  have g := AG_th h
  have hpx := hp.ag g n70
  have plx := s.1.ag g n70
  have mrx := s.2.1.ag g (by omega)
  have n3 := p.1.2.1 0 (by omega)
  have k3 := p.1.1
  have np6 := p.2.1
  have dr := c.2.2.1.1
  by_cases h1 : vp_in p1 3
  · obtain ⟨l, hl, rfl⟩ := vp_in_of h1 (by omega)
    by_cases h0 : R_kd R ≠ 0 ∨ R_n R 0 ≠ 0
    · exact opV_ref (E := 1) (k := 2) W (by omega) (by omega) (fun Q => d_4k hp dr hl k3 n3 h0) (fun Q => m_74k hpx mrx hl k3 n3 h0) o n70 (INV_th p c s o 2)
    · have k0 : R_kd R = 0 := by omega
      have n0 : R_n R 0 = 0 := by omega
      have fc : FR h (hWk h r p0 (nI l)) (Sd r) := (((FR.refl _ _).i ⟨by omega, by omega⟩).i ⟨by omega, by omega⟩).i ⟨by omega, by omega⟩
      obtain ⟨m1, m2, m3, m4, m5⟩ := MIDc (h1 := hWk h r p0 (nI l)) c s o fc (FR.refl _ _)
      refine opV_ok W (fun Q => d_4 hp dr hl k0 n0) (fun Q => m_74 m1 m4 hl k0 n0) m5 ?_ (INV_dr p c s o (ok_Wk p.1 hl n0) fc (wk_co dr.2.2.1 p0 (nI l)) (FR.refl _ _) ((((FR.refl _ _).i (Or.inl ⟨rfl, rfl⟩)).i (Or.inr rfl)).i (Or.inr rfl) |>.i (Or.inr rfl)) (MRw_K m4 (fun j hj => ?_) ?_ fun j hj => ?_))
      · rw [ai_n (by omega), ai_n (by omega), ai_n (by omega), ai_y]
      · rw [ai_n (by omega), ai_n (by omega), ai_n (by omega), ai_n (by omega)]
      · rw [ai_n (by omega), ai_n (by omega), ai_y]
      · have g3 := m4.2.1
        have : j = 0 ∨ j = 1 ∨ j = 2 := by omega
        rcases this with rfl | rfl | rfl
        · rw [ai_n (by omega), ai_y]; rfl
        · rw [ai_y]; rfl
        · rw [ai_n (by omega), ai_n (by omega), ai_n (by omega), ai_n (by omega)]; exact g3 2 (by omega)
  · exact opV_ref (E := 2) (k := 1) W (by omega) (by omega) (fun Q => d_4l hp h1) (fun Q => m_74l hpx h1) o n70 (INV_th p c s o 1)
/-- 4: difference -/
theorem op_4 (iv : INVA h) (p0 p1 p2 : Int32) : opV sc 254 75 [.ref 0, .int p0, .int p1, .int p2] [.ref 49, .int p0, .int p1, .int p2] h := by
  obtain ⟨np, pl, R, m, Ro, A, I, X, T, F, pc, pa, pb, r, p, c, s, o⟩ := iv
  have hp := c.1.1
  have n70 := c.1.2
  have W := fun Q => w_254 (sc := sc) (d := 59) (h := h) (Q := Q) hp p0 p1 p2
  have g := AG_th h
  have hpx := hp.ag g n70
  have plx := s.1.ag g n70
  have mrx := s.2.1.ag g (by omega)
  have n3 := p.1.2.1 0 (by omega)
  have k3 := p.1.1
  have np6 := p.2.1
  have dr := c.2.2.1.1
  by_cases h1 : vp_in p0 4
  · obtain ⟨x, hx, rfl⟩ := vp_in_of h1 (by omega)
    by_cases h2 : vp_in p1 4
    · obtain ⟨y, hy, rfl⟩ := vp_in_of h2 (by omega)
      cases hc : difB x y p2
      · exact opV_ref (E := 0) (k := 2) W (by omega) (by omega) (fun Q => d_5n hp hx hy hc) (fun Q => m_75n hpx hx hy hc) o n70 (INV_th p c s o 2)
      · by_cases h0 : R_kd R ≠ 0 ∨ R_n R 0 ≠ 0
        · exact opV_ref (E := 1) (k := 3) W (by omega) (by omega) (fun Q => d_5k hp dr hx hy hc k3 n3 h0) (fun Q => m_75k hpx mrx hx hy hc k3 n3 h0) o n70 (INV_th p c s o 3)
        · have k0 : R_kd R = 0 := by omega
          have n0 : R_n R 0 = 0 := by omega
          have fc : FR h (hDf h r (nI x) (nI y) p2) (Sd r) := ((((FR.refl _ _).i ⟨by omega, by omega⟩).i ⟨by omega, by omega⟩).i ⟨by omega, by omega⟩).i ⟨by omega, by omega⟩
          obtain ⟨m1, m2, m3, m4, m5⟩ := MIDc (h1 := hDf h r (nI x) (nI y) p2) c s o fc (FR.refl _ _)
          refine opV_ok W (fun Q => d_5 hp dr hx hy hc k0 n0) (fun Q => m_75 m1 m4 hx hy hc k0 n0) m5 ?_ (INV_dr p c s o (ok_Df p.1 hx hy hc n0) fc (df_co dr.2.2.1 (nI x) (nI y) p2) (FR.refl _ _) (((((FR.refl _ _).i (Or.inl ⟨rfl, rfl⟩)).i (Or.inr rfl)).i (Or.inr rfl)).i (Or.inr rfl) |>.i (Or.inr rfl)) (MRw_K m4 (fun j hj => ?_) ?_ fun j hj => ?_))
          · rw [ai_n (by omega), ai_n (by omega), ai_n (by omega), ai_n (by omega), ai_y]
          · rw [ai_n (by omega), ai_n (by omega), ai_n (by omega), ai_n (by omega), ai_n (by omega)]
          · rw [ai_n (by omega), ai_n (by omega), ai_n (by omega), ai_y]
          · have : j = 0 ∨ j = 1 ∨ j = 2 := by omega
            rcases this with rfl | rfl | rfl
            · rw [ai_n (by omega), ai_n (by omega), ai_y]; rfl
            · rw [ai_n (by omega), ai_y]; rfl
            · rw [ai_y]; rfl
    · exact opV_ref (E := 2) (k := 1) W (by omega) (by omega) (fun Q => d_5y hp hx h2) (fun Q => m_75p hpx fun z => h2 z.2) o n70 (INV_th p c s o 1)
  · exact opV_ref (E := 2) (k := 1) W (by omega) (by omega) (fun Q => d_5x hp h1) (fun Q => m_75p hpx fun z => h1 z.1) o n70 (INV_th p c s o 1)
/-- 7: interval -/
theorem op_7 (iv : INVA h) (p0 p1 p2 : Int32) : opV sc 257 78 [.ref 0, .int p0, .int p1, .int p2] [.ref 49, .int p0, .int p1, .int p2] h := by
  obtain ⟨np, pl, R, m, Ro, A, I, X, T, F, pc, pa, pb, r, p, c, s, o⟩ := iv
  have hp := c.1.1
  have n70 := c.1.2
  have W := fun Q => w_257 (sc := sc) (d := 59) (h := h) (Q := Q) hp p0 p1 p2
  have g := AG_th h
  have hpx := hp.ag g n70
  have plx := s.1.ag g n70
  have mrx := s.2.1.ag g (by omega)
  have n3 := p.1.2.1 0 (by omega)
  have k3 := p.1.1
  have np6 := p.2.1
  have dr := c.2.2.1.1
  cases hc : itvB p0 p1 p2
  · exact opV_ref (E := 0) (k := 1) W (by omega) (by omega) (fun Q => d_8n hp hc) (fun Q => m_78n hpx hc) o n70 (INV_th p c s o 1)
  · obtain ⟨v, f, t, hv, hf, ht, rfl, rfl, rfl⟩ := itv_ex hc
    have fc : FR h (hIv h r v f t (msk 4 (R_il R))) (Sd r) := (((FR.refl _ _).i ⟨by omega, by omega⟩).i ⟨by omega, by omega⟩).i ⟨by omega, by omega⟩
    obtain ⟨m1, m2, m3, m4, m5⟩ := MIDc (h1 := hIv h r v f t (msk 4 (R_il R))) c s o fc (FR.refl _ _)
    refine opV_ok W (fun Q => d_8 hp dr hv hf ht) (fun Q => m_78 m1 hv hf ht) m5 ?_ (INV_dr p c s o (ok_I p.1 hf ht) fc (iv_co dr.2.2.1 hv f t) (FR.refl _ _) (((FR.refl _ _).i (Or.inl ⟨rfl, rfl⟩)).i (Or.inr rfl) |>.i (Or.inr rfl)) (MRw_I m4 (ok_len p.1) hv (fun j h1 h2 => ?_) ?_ ?_))
    · rw [ai_n (by omega), ai_n (by omega), ai_y]
    · rw [ai_n (by omega), ai_n (by omega), ai_n (by omega)]
    · rw [ai_n (by omega), ai_y]
    · rw [ai_y]
/-- 8: sum -/
theorem op_8 (iv : INVA h) (p0 p1 : Int32) : opV sc 258 79 [.ref 0, .int p0, .int p1] [.ref 49, .int p0, .int p1] h := by
  obtain ⟨np, pl, R, m, Ro, A, I, X, T, F, pc, pa, pb, r, p, c, s, o⟩ := iv
  have hp := c.1.1
  have n70 := c.1.2
  have W := fun Q => w_258 (sc := sc) (d := 59) (h := h) (Q := Q) hp p0 p1
  have g := AG_th h
  have hpx := hp.ag g n70
  have plx := s.1.ag g n70
  have mrx := s.2.1.ag g (by omega)
  have n3 := p.1.2.1 0 (by omega)
  have k3 := p.1.1
  have np6 := p.2.1
  have dr := c.2.2.1.1
  by_cases hc : p1 < p0
  · exact opV_ref (E := 0) (k := 1) W (by omega) (by omega) (fun Q => d_9n hp hc) (fun Q => m_79n hpx hc) o n70 (INV_th p c s o 1)
  · cases hs : R_su R
    · have fc : FR h (hSu h r p0 p1) (Sd r) := (((FR.refl _ _).i ⟨by omega, by omega⟩).i ⟨by omega, by omega⟩).i ⟨by omega, by omega⟩
      obtain ⟨m1, m2, m3, m4, m5⟩ := MIDc (h1 := hSu h r p0 p1) c s o fc (FR.refl _ _)
      refine opV_ok W (fun Q => d_9 hp dr hc hs) (fun Q => m_79 m1 m4 hc hs) m5 ?_ (INV_dr p c s o (ok_S p.1 p0 p1) fc (su_co dr.2.2.1 p0 p1) (FR.refl _ _) ((((FR.refl _ _).i (Or.inl ⟨rfl, rfl⟩)).i (Or.inr rfl)).i (Or.inr rfl) |>.i (Or.inr rfl)) (MRw_S m4 (ok_len p.1) (fun j hj => ?_) ?_ ?_ ?_))
      · rw [ai_n (by omega), ai_n (by omega), ai_n (by omega), ai_y]
      · rw [ai_n (by omega), ai_n (by omega), ai_n (by omega), ai_n (by omega)]
      · rw [ai_n (by omega), ai_n (by omega), ai_y]
      · rw [ai_n (by omega), ai_y]
      · rw [ai_y]
    · exact opV_ref (E := 1) (k := 2) W (by omega) (by omega) (fun Q => d_9k hp dr hc hs) (fun Q => m_79k hpx mrx hc hs) o n70 (INV_th p c s o 2)
/-- 9: element -/
theorem op_9 (iv : INVA h) (p0 p1 p2 p3 : Int32) : opI sc 259 80 [.ref 0, .int p0, .int p1, .int p2, .int p3, .ref 69] [.ref 49, .int p0, .int p1, .int p2, .int p3] h := by
  obtain ⟨np, pl, R, m, Ro, A, I, X, T, F, pc, pa, pb, r, p, c, s, o⟩ := iv
  have hp := c.1.1
  have n70 := c.1.2
  have W := fun Q => w_259 (sc := sc) (d := 59) (h := h) (Q := Q) hp p0 p1 p2 p3
  have g := AG_th h
  have hpx := hp.ag g n70
  have plx := s.1.ag g n70
  have mrx := s.2.1.ag g (by omega)
  have n3 := p.1.2.1 0 (by omega)
  have k3 := p.1.1
  have np6 := p.2.1
  have dr := c.2.2.1.1
  have n4 := p.1.2.2.1
  by_cases h1 : vp_in p1 np
  · obtain ⟨p', hp1, rfl⟩ := vp_in_of h1 (by omega)
    cases ht : trmB pl p' (-5) p2 p3
    · exact opI_ref (E := 0) (k := 2) W (by omega) (by omega) (fun Q => d_10n hp c.2.1 hp1 ht) (fun Q => m_80n hpx plx hp1 ht) o n70 (INV_th p c s o 2)
    · by_cases hf : R_su R = false ∨ R_n R 4 = 4
      · exact opI_ref (E := 1) (k := 3) W (by omega) (by omega) (fun Q => d_10k hp c.2.1 dr hp1 ht hf) (fun Q => m_80k hpx plx mrx hp1 ht hf) o n70 (INV_th p c s o 3)
      · obtain ⟨x, y, vx, vy, rfl, rfl⟩ := trm_ex5 ht
        have hs : R_su R = true := by
          cases q : R_su R
          · exact absurd (Or.inl q) hf
          · rfl
        have hn : R_n R 4 < 4 := by
          have : R_n R 4 ≠ 4 := fun z => hf (Or.inr z)
          omega
        have fc : FR h (pushC (ap_i h (r + 13) (R_n R 4) p0) r R 4 p' x y) (Sd r) := ((FR.refl _ _).i ⟨by omega, by omega⟩).trans (push_fr (by omega)) fun _ _ z => z
        obtain ⟨m1, m2, m3, m4, m5⟩ := MIDc (h1 := ap_l (pushC (ap_i h (r + 13) (R_n R 4) p0) r R 4 p' x y) 69 0 (nI (R_n R 4 + 1)).toInt64) c s o fc f69
        refine opI_ok W (fun Q => d_10 hp c.2.1 dr hp1 ht hs hn) (fun Q => m_80 m1 m2 m4 hp1 ht hs hn) m5 l69 ?_ (INV_dr p c s o (ok_El p.1 hn hs vx vy hp1) fc (el_co dr.2.2.1 p0 p' x y) f69 ((((((FR.refl _ _).i (Or.inl ⟨rfl, rfl⟩)).i (Or.inr rfl)).i (Or.inr rfl)).i (Or.inr rfl)).i (Or.inr rfl) |>.i (Or.inr rfl)) (MRw_E m3 (ok_len p.1) (fun j h1 h2 => ?_) ?_ ?_ ?_ ?_ ?_))
        all_goals unfold hEl
        · rw [ai_n (by omega), ai_n (by omega), ai_n (by omega), ai_n (by omega), ai_n (by omega), ai_y]
        · rw [ai_n (by omega), ai_n (by omega), ai_n (by omega), ai_n (by omega), ai_n (by omega)]
        · rw [ai_y]
        · rw [ai_n (by omega), ai_n (by omega), ai_n (by omega), ai_n (by omega), ai_y]
        · rw [ai_n (by omega), ai_n (by omega), ai_n (by omega), show 58 + 4 * R_n R 4 = 57 + 4 * R_n R 4 + 1 by omega, ai_y]
        · rw [ai_n (by omega), ai_n (by omega), show 59 + 4 * R_n R 4 = 57 + 4 * R_n R 4 + 2 by omega, ai_y]
        · rw [ai_n (by omega), show 60 + 4 * R_n R 4 = 57 + 4 * R_n R 4 + 3 by omega, ai_y]
  · exact opI_ref (E := 2) (k := 1) W (by omega) (by omega) (fun Q => d_10p hp c.2.1 h1 p0 p2 p3) (fun Q => m_80p hpx plx h1 p0 p2 p3) o n70 (INV_th p c s o 1)
/-- 10: drop -/
theorem op_10 (iv : INVA h) : TC sc 60 11 [.ref 0] h fun q h1 => q = .inl none ∧ TC sc 60 81 [.ref 49] h1 fun q2 h2 => q2 = .inl none ∧ INVA h2 ∧ GRO h h2 := by
  obtain ⟨np, pl, R, m, Ro, A, I, X, T, F, pc, pa, pb, r, p, c, s, o⟩ := iv
  have dr := c.2.2.1.1
  have fc : FR h (hDr h r) (Sd r) := by
    unfold hDr
    have e0 : eO 0 = 2 := rfl
    have e1 : eO 1 = 4 := rfl
    have e2 : eO 2 = 6 := rfl
    have e3 : eO 3 = 8 := rfl
    have e4 : eO 4 = 11 := rfl
    repeat (first | exact FR.refl _ _ | refine FR.i ?_ ⟨by omega, by omega⟩)
  obtain ⟨m1, m2, m3, m4, m5⟩ := MIDc (h1 := hDr h r) c s o fc (FR.refl _ _)
  refine (d_11 c.1.1 dr).mpr ⟨rfl, TC_mono (m_81 (R := R) m1) ?_⟩
  rintro q2 h2 ⟨rfl, f2, t2, mm⟩
  exact ⟨rfl, INV_dr p c s o (ok_clr R) fc (dr_co dr.2.2.1) (FR.refl _ _) f2 mm⟩
end OPS
