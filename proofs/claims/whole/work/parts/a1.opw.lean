/-! CALLS OF BOTH SIDES: PREDICATE, ASSIGN, PREFER -/
section OPS
variable {sc : (Nat → Int32) × Nat} {h : AH}
/-- 0: predicate -/
theorem op_0 (iv : INVA h) (p0 : Int32) : opI sc 250 66 [.ref 0, .int p0, .ref 69] [.ref 49, .int p0] h := by
  obtain ⟨np, pl, R, m, Ro, A, I, X, T, F, pc, pa, pb, r, p, c, s, o⟩ := iv
  have hp := c.1.1
  have n70 := c.1.2
  have W := fun Q => w_250 (sc := sc) (d := 59) (h := h) (Q := Q) hp p0
  have g := AG_th h
  have hpx := hp.ag g n70
  have plx := s.1.ag g n70
  have np6 := p.2.1
  by_cases h1 : vp_in p0 3
  · obtain ⟨p', hp1, rfl⟩ := vp_in_of h1 (by omega)
    by_cases h6 : np = 6
    · subst h6
      exact opI_ref (E := 1) (k := 2) W (by omega) (by omega) (fun Q => d_1k hp c.2.1 hp1) (fun Q => m_66k hpx plx hp1) o n70 (INV_th p c s o 2)
    · have f1 : FR h (ap_i (ap_i h 1 np (nI p')) 0 1 (nI (np + 1))) (fun a k => a = 1 ∨ a = 0 ∧ k = 1) := ((FR.refl _ _).i (Or.inl rfl)).i (Or.inr ⟨rfl, rfl⟩)
      have f2 : FR h (ap_l (ap_i (ap_i h 1 np (nI p')) 0 1 (nI (np + 1))) 69 0 (nI np).toInt64) (fun a k => (a = 1 ∨ a = 0 ∧ k = 1) ∨ a = 69) := (f1.mono fun a k z => Or.inl z).trans (@f69 (ap_i (ap_i h 1 np (nI p')) 0 1 (nI (np + 1))) (nI np).toInt64) fun a k z => Or.inr z
      have pl1 : PLM (ap_l (ap_i (ap_i h 1 np (nI p')) 0 1 (nI (np + 1))) 69 0 (nI np).toInt64) np pl := by
        have e : ∀ a k, 49 ≤ a → a ≤ 68 → ah_i (ap_l (ap_i (ap_i h 1 np (nI p')) 0 1 (nI (np + 1))) 69 0 (nI np).toInt64) a k = ah_i h a k := fun a k h1 h2 => f2.ci fun z => by omega
        have := s.1
        unfold PLM at *
        simp (disch := omega) only [e]
        exact this
      have hp1' := hp.fr f2
      refine opI_ok W (fun Q => d_1 hp c.2.1 (by omega) hp1) (fun Q => m_66 hp1' pl1 (by omega) hp1) (o.fr f1) l69 ?_ ?_
      · rw [ai_n (by omega), ai_n (by omega), ai_y]
      · generalize hh1 : ap_l (ap_i (ap_i h 1 np (nI p')) 0 1 (nI (np + 1))) 69 0 (nI np).toInt64 = h1 at *
        have f3 : FR h (ap_i (ap_i (ap_i h1 49 0 (nI 0)) 50 np (nI p')) 49 2 (nI (np + 1))) (fun a k => ((a = 1 ∨ a = 0 ∧ k = 1) ∨ a = 69) ∨ (a = 49 ∧ (k = 0 ∨ k = 2) ∨ a = 50)) := (f2.mono fun a k z => Or.inl z).trans (((FR.refl h1 (fun a k => a = 49 ∧ (k = 0 ∨ k = 2) ∨ a = 50)).i (Or.inl ⟨rfl, Or.inl rfl⟩)).i (Or.inr rfl) |>.i (Or.inl ⟨rfl, Or.inr rfl⟩)) fun a k z => Or.inr z
        have q1 : ∀ j, j < np + 1 → ah_i (ap_i (ap_i (ap_i h1 49 0 (nI 0)) 50 np (nI p')) 49 2 (nI (np + 1))) 1 j = nI (if j = np then p' else pl j) ∧ (if j = np then p' else pl j) ≤ 2 := fun j hj => by
          rw [ai_n (by omega), ai_n (by omega), ai_n (by omega), ← hh1]
          show ah_i (ap_i (ap_i h 1 np (nI p')) 0 1 (nI (np + 1))) 1 j = _ ∧ _
          rw [ai_n (by omega)]
          by_cases w : j = np
          · rw [if_pos w, w, ai_y]; exact ⟨rfl, by omega⟩
          · rw [if_neg w, ai_n (by omega)]; exact c.2.1.2.2 j (by omega)
        have q2 : ah_i (ap_i (ap_i (ap_i h1 49 0 (nI 0)) 50 np (nI p')) 49 2 (nI (np + 1))) 0 1 = nI (np + 1) := by
          rw [ai_n (by omega), ai_n (by omega), ai_n (by omega), ← hh1]
          show ah_i (ap_i (ap_i h 1 np (nI p')) 0 1 (nI (np + 1))) 0 1 = _
          rw [ai_y]
        have q3 : ∀ j, j < np + 1 → ah_i (ap_i (ap_i (ap_i h1 49 0 (nI 0)) 50 np (nI p')) 49 2 (nI (np + 1))) 50 j = nI (if j = np then p' else pl j) ∧ (if j = np then p' else pl j) ≤ 2 := fun j hj => by
          rw [ai_n (by omega)]
          by_cases w : j = np
          · rw [if_pos w, w, ai_y]; exact ⟨rfl, by omega⟩
          · rw [if_neg w, ai_n (by omega), ai_n (by omega)]; exact pl1.2.2 j (by omega)
        have q4 : ah_i (ap_i (ap_i (ap_i h1 49 0 (nI 0)) 50 np (nI p')) 49 2 (nI (np + 1))) 49 2 = nI (np + 1) := ai_y
        generalize ap_i (ap_i (ap_i h1 49 0 (nI 0)) 50 np (nI p')) 49 2 (nI (np + 1)) = hm at *
        have fv := f3.v fun _ _ => False
        have r3 : r = 3 ∨ 70 ≤ r := c.2.2.1.2.1
        have nn : ∀ a k, (a ≠ 1 ∧ (a ≠ 0 ∨ k ≠ 1) ∧ a ≠ 69 ∧ a ≠ 49 ∧ a ≠ 50) → ¬ (((a = 1 ∨ a = 0 ∧ k = 1) ∨ a = 69) ∨ (a = 49 ∧ (k = 0 ∨ k = 2) ∨ a = 50)) := fun a k z y => by omega
        refine ⟨⟨np + 1, (fun j => if j = np then p' else pl j), R, m, Ro, A, I, X, T, F, pc, pa, pb, r, ⟨R_ok_mono p.1 (by omega), by omega, p.2.2⟩, ?_, ?_, o.fr f3⟩, by rw [f3.1]; omega, by rw [f3.2.1]; omega⟩
        · obtain ⟨⟨c1, n70⟩, c2, ⟨d, c4, c5⟩, c6, c7, c8, c9⟩ := c
          refine ⟨⟨c1.fr f3, by rw [f3.1]; exact n70⟩, ⟨q2, by omega, q1⟩, ⟨d.fv fv (fun _ _ z => z.elim) (fun j k hj => nn _ _ (by omega)) c4, c4, by rw [f3.1]; exact c5⟩, c6.fv fv (fun _ _ z => z.elim) (nn _ _ (by omega)) (fun q hq _ j k hj => by
            have q3 : q = 3 ∨ 70 ≤ q := hq
            exact nn _ _ (by omega)), c7.fv fv (fun a k h1 h2 => nn a k (by omega)), ?_, c9.fv fv fun a k h1 h2 => nn a k (by omega)⟩
          exact c8.fv c6 (CIV.irs p) fv (fun _ _ z => z.elim) (fun k _ => nn _ _ (by omega)) (fun k => nn _ _ (by omega)) (nn _ _ (by omega)) (fun a k h1 h2 => nn a k (by omega)) (fun k => nn _ _ (by omega)) (fun k => nn _ _ (by omega)) (fun q hq _ j k hj => by
            have q3 : q = 3 ∨ 70 ≤ q := hq
            exact nn _ _ (by omega))
        · have gi : ∀ a k, 49 ≤ a → a ≤ 68 → a ≠ 50 → ¬ (a = 49 ∧ (k = 0 ∨ k = 2)) → ah_i hm a k = ah_i h a k := fun a k h1 h2 h3 h4 => f3.ci fun z => by omega
          have gl : ∀ a k, 49 ≤ a → a ≤ 68 → a ≠ 50 → ¬ (a = 49 ∧ (k = 0 ∨ k = 2)) → ah_l hm a k = ah_l h a k := fun a k h1 h2 h3 h4 => f3.cl fun z => by omega
          obtain ⟨s1, s2⟩ := s
          refine ⟨⟨q4, by omega, q3⟩, ?_⟩
          clear q1 q2 q3 q4 pl1 f2 f3 fv s1
          unfold MRw RR MRw MG HWK RMP RMI RMX MCS MSR PRM at *
          simp (disch := omega) only [gi, gl]
          exact s2
  · exact opI_ref (E := 0) (k := 1) W (by omega) (by omega) (fun Q => d_1n hp h1) (fun Q => m_66n hpx h1) o n70 (INV_th p c s o 1)
/-- 13: assign -/
theorem op_13 (iv : INVA h) (p0 p1 : Int32) : opI sc 262 108 [.ref 0, .int p0, .int p1, .ref 69] [.ref 49, .int p0, .int p1] h := by
  obtain ⟨np, pl, R, m, Ro, A, I, X, T, F, pc, pa, pb, r, p, c, s, o⟩ := iv
  have hp := c.1.1
  have n70 := c.1.2
  have W := fun Q => w_262 (sc := sc) (d := 59) (h := h) (Q := Q) hp p0 p1
  have q0 := c.2.2.2.2.2.1.1
  have n12 : A.length ≤ 12 := p.ok.1
  obtain ⟨cx, sx, ox, nx, ux⟩ := Q_mid p c s o (Or.inr rfl)
  have mx := MIV.mq p cx sx
  by_cases h1 : vp_in p0 A.length
  · obtain ⟨a, ha, rfl⟩ := vp_in_of h1 (by omega)
    by_cases h2 : vp_in p1 3
    · obtain ⟨st, hs, rfl⟩ := vp_in_of h2 (by omega)
      cases hx : X.testBit a
      · exact opI_ref (E := 1) (k := 3) W (by omega) (by omega) (fun Q => d_14n q0 ha hs hx) (fun Q => m_108n mx ha hs hx) o n70 (INV_th p c s o 3)
      · have f1 : FR h (ap_i (ap_i (ap_i h 27 1 (nI (asT T a st))) 27 2 (nI (asF F a st))) 0 13 (nI 0)) (fun a k => a = 27 ∧ (k = 1 ∨ k = 2) ∨ a = 0 ∧ k = 13) := (((FR.refl _ _).i (Or.inl ⟨rfl, Or.inl rfl⟩)).i (Or.inl ⟨rfl, Or.inr rfl⟩)).i (Or.inr ⟨rfl, rfl⟩)
        have f2 := f1.mono (S' := fun a k => (a = 27 ∧ (k = 1 ∨ k = 2) ∨ a = 0 ∧ k = 13) ∨ a = 69) (fun a k z => Or.inl z) |>.trans (@f69 (ap_i (ap_i (ap_i h 27 1 (nI (asT T a st))) 27 2 (nI (asF F a st))) 0 13 (nI 0)) (nI (stN T F a)).toInt64) fun a k z => Or.inr z
        have s1 := s.cl (h' := ap_l (ap_i (ap_i (ap_i h 27 1 (nI (asT T a st))) 27 2 (nI (asF F a st))) 0 13 (nI 0)) 69 0 (nI (stN T F a)).toInt64) fun a k q1 q2 => ⟨f2.ci fun z => by omega, f2.cl fun z => by omega⟩
        have m1 := s1.q (hp.fr f2) p.ok p.2.2.2.2.2.2.1 p.2.2.2.2.2.2.2
        have hw := s1.2.2.2.1.2 a ha hx
        refine opI_ok W (fun Q => d_14 q0 ha hs hx) (fun Q => m_108 m1 ha hs hx hw) (o.fr f1) l69 ?_ ?_
        · rw [ai_n (by omega), ai_n (by omega), ai_y]
        · have e1 : ah_i (ap_l (ap_i (ap_i (ap_i h 27 1 (nI (asT T a st))) 27 2 (nI (asF F a st))) 0 13 (nI 0)) 69 0 (nI (stN T F a)).toInt64) 27 1 = nI (asT T a st) ∧ ah_i (ap_l (ap_i (ap_i (ap_i h 27 1 (nI (asT T a st))) 27 2 (nI (asF F a st))) 0 13 (nI 0)) 69 0 (nI (stN T F a)).toInt64) 27 2 = nI (asF F a st) ∧ ah_i (ap_l (ap_i (ap_i (ap_i h 27 1 (nI (asT T a st))) 27 2 (nI (asF F a st))) 0 13 (nI 0)) 69 0 (nI (stN T F a)).toInt64) 0 13 = nI 0 := by
            refine ⟨?_, ?_, ?_⟩
            · rw [ai_l, ai_n (by omega), ai_n (by omega), ai_y]
            · rw [ai_l, ai_n (by omega), ai_y]
            · rw [ai_l, ai_y]
          generalize ap_l (ap_i (ap_i (ap_i h 27 1 (nI (asT T a st))) 27 2 (nI (asF F a st))) 0 13 (nI 0)) 69 0 (nI (stN T F a)).toInt64 = h1 at *
          have f3 : FR h (ap_i (ap_i (ap_i h1 49 0 (nI 0)) 55 a (nI st)) 49 27 (nI 0)) (fun a k => ((a = 27 ∧ (k = 1 ∨ k = 2) ∨ a = 0 ∧ k = 13) ∨ a = 69) ∨ (a = 49 ∧ (k = 0 ∨ k = 27) ∨ a = 55)) := (f2.mono fun a k z => Or.inl z).trans (((FR.refl h1 (fun a k => a = 49 ∧ (k = 0 ∨ k = 27) ∨ a = 55)).i (Or.inl ⟨rfl, Or.inl rfl⟩)).i (Or.inr rfl) |>.i (Or.inl ⟨rfl, Or.inr rfl⟩)) fun a k z => Or.inr z
          have g1 : ah_i (ap_i (ap_i (ap_i h1 49 0 (nI 0)) 55 a (nI st)) 49 27 (nI 0)) 27 1 = nI (asT T a st) := by rw [ai_n (by omega), ai_n (by omega), ai_n (by omega)]; exact e1.1
          have g2 : ah_i (ap_i (ap_i (ap_i h1 49 0 (nI 0)) 55 a (nI st)) 49 27 (nI 0)) 27 2 = nI (asF F a st) := by rw [ai_n (by omega), ai_n (by omega), ai_n (by omega)]; exact e1.2.1
          have g3 : ah_i (ap_i (ap_i (ap_i h1 49 0 (nI 0)) 55 a (nI st)) 49 27 (nI 0)) 0 13 = nI 0 := by rw [ai_n (by omega), ai_n (by omega), ai_n (by omega)]; exact e1.2.2
          have g4 : ah_i (ap_i (ap_i (ap_i h1 49 0 (nI 0)) 55 a (nI st)) 49 27 (nI 0)) 49 27 = nI 0 := ai_y
          have g5 : ∀ b, b < A.length → ah_i (ap_i (ap_i (ap_i h1 49 0 (nI 0)) 55 a (nI st)) 49 27 (nI 0)) 55 b = if b = a then nI st else ah_i h 55 b := fun b hb => by
            rw [ai_n (by omega)]
            by_cases w : b = a
            · rw [if_pos w, w, ai_y]
            · rw [if_neg w, ai_n (by omega), ai_n (by omega)]; exact f2.ci fun z => by omega
          generalize ap_i (ap_i (ap_i h1 49 0 (nI 0)) 55 a (nI st)) 49 27 (nI 0) = hm at *
          have fv := f3.v fun _ _ => False
          have r3 : r = 3 ∨ 70 ≤ r := c.2.2.1.2.1
          have nn : ∀ b k, (b ≠ 27 ∧ (b ≠ 0 ∨ k ≠ 13) ∧ b ≠ 69 ∧ b ≠ 49 ∧ b ≠ 55) → ¬ (((b = 27 ∧ (k = 1 ∨ k = 2) ∨ b = 0 ∧ k = 13) ∨ b = 69) ∨ (b = 49 ∧ (k = 0 ∨ k = 27) ∨ b = 55)) := fun b k z y => by omega
          have p' : PIV np R m Ro A I X (asT T a st) (asF F a st) := ⟨p.1, p.2.1, p.2.2.1, p.2.2.2.1, p.2.2.2.2.1, p.2.2.2.2.2.1, asT_lt p.2.2.2.2.2.2.1 ha, asF_lt p.2.2.2.2.2.2.2 ha⟩
          refine ⟨⟨np, pl, R, m, Ro, A, I, X, asT T a st, asF F a st, pc, pa, pb, r, p', ?_, ?_, o.fr f3⟩, by rw [f3.1]; omega, by rw [f3.2.1]; omega⟩
          · obtain ⟨⟨c1, n70⟩, c2, ⟨d, c4, c5⟩, c6, c7, c8, c9⟩ := c
            have s0 := ss_0 c1
            have s27 := ss_27 c1
            have s49 := ss_49 c1
            refine ⟨⟨c1.fr f3, by rw [f3.1]; exact n70⟩, c2.fv fv (nn _ _ (by omega)) (fun k => nn _ _ (by omega)), ⟨d.fv fv (fun _ _ z => z.elim) (fun j k hj => nn _ _ (by omega)) c4, c4, by rw [f3.1]; exact c5⟩, c6.fv fv (fun _ _ z => z.elim) (nn _ _ (by omega)) (fun q hq _ j k hj => by
              have q3 : q = 3 ∨ 70 ≤ q := hq
              exact nn _ _ (by omega)), c7.fv fv (fun b k h1 h2 => nn b k (by omega)), ⟨⟨?_, ?_, ?_, Or.inl g3⟩, fun i hi => by rw [f3.k.2.2, f3.k.2.2]; exact c8.2 i hi⟩, c9.fv fv fun b k h1 h2 => nn b k (by omega)⟩
            · refine c8.1.1.fr f3 (fun b k z => ?_) (fun k => nn _ _ (by omega)) (fun k => nn _ _ (by omega)) (fun k => nn _ _ (by omega)) (fun k => nn _ _ (by omega)) (fun k => nn _ _ (by omega)) (fun k => nn _ _ (by omega)) (fun k => nn _ _ (by omega)) (fun k => nn _ _ (by omega))
              have : b = 27 ∨ b = 0 ∨ b = 69 ∨ b = 49 ∨ b = 55 := by omega
              have k55 : ah_k h 55 = 20 := by simp only [s49]
              rcases this with rfl | rfl | rfl | rfl | rfl
              · rw [s27]; decide
              · rw [s0.1]; decide
              · rw [o.1]; decide
              · rw [s49.1]; decide
              · rw [k55]; decide
            · obtain ⟨x1, x2, x3, x4, x5, x6⟩ := c8.1.2.1
              exact ⟨(f3.ci (fun z => by omega)).trans x1, g1, g2, x4, asT_lt x5 ha, asF_lt x6 ha⟩
            · rw [f3.ci (nn _ _ (by omega))]; exact c8.1.2.2.1
          · have gi : ∀ b k, 49 ≤ b → b ≤ 68 → b ≠ 55 → ¬ (b = 49 ∧ (k = 0 ∨ k = 27)) → ah_i hm b k = ah_i h b k := fun b k h1 h2 h3 h4 => f3.ci fun z => by omega
            have gl : ∀ b k, 49 ≤ b → b ≤ 68 → b ≠ 55 → ¬ (b = 49 ∧ (k = 0 ∨ k = 27)) → ah_l hm b k = ah_l h b k := fun b k h1 h2 h3 h4 => f3.cl fun z => by omega
            obtain ⟨s1, s2, s3, ⟨s4, s4b⟩, ⟨s5, s6, _⟩, s7⟩ := s
            refine ⟨?_, ?_, ?_, ⟨?_, fun b hb _ => ?_⟩, ⟨?_, ⟨?_, s6.2.1, fun b hb => ?_⟩, Or.inl g4⟩, ?_⟩
            · unfold PLM at *
              simp (disch := omega) only [gi]
              exact s1
            · exact s2.c fun j => gi 51 j (by omega) (by omega) (by omega) (by omega)
            · exact ⟨s3.1.fr f3 fun k z => by omega, by rw [gi _ _ (by omega) (by omega) (by omega) (by omega)]; exact s3.2⟩
            · unfold MG at *
              simp (disch := omega) only [gi]
              exact s4
            · rw [g5 b hb]
              by_cases w : b = a
              · rw [if_pos w]
                have : st = 0 ∨ st = 1 ∨ st = 2 := by omega
                rcases this with rfl | rfl | rfl
                · exact Or.inl rfl
                · exact Or.inr (Or.inl rfl)
                · exact Or.inr (Or.inr rfl)
              · rw [if_neg w]; exact s4b b hb (by assumption)
            · clear g1 g2 g3 g4 g5 e1 m1 hw
              unfold RMP RMI at *
              simp (disch := omega) only [gi, gl]
              exact s5
            · rw [gi _ _ (by omega) (by omega) (by omega) (by omega)]; exact s6.1
            · have hb : b < A.length := hb
              rw [g5 b hb, asT_tb, asF_tb]
              by_cases w : b = a
              · rw [if_pos w, if_pos w, if_pos w, w, hx]
                have : st = 0 ∨ st = 1 ∨ st = 2 := by omega
                rcases this with rfl | rfl | rfl <;> decide
              · rw [if_neg w, if_neg w, if_neg w]; exact s6.2.2 b hb
            · unfold PRM at *
              simp (disch := omega) only [gi]
              exact s7
    · exact opI_ref (E := 0) (k := 2) W (by omega) (by omega) (fun Q => d_14s q0 ha h2) (fun Q => m_108s mx ha h2) o n70 (INV_th p c s o 2)
  · exact opI_ref (E := 2) (k := 1) W (by omega) (by omega) (fun Q => d_14a q0 h1 p1) (fun Q => m_108a mx h1 p1) o n70 (INV_th p c s o 1)
end OPS
