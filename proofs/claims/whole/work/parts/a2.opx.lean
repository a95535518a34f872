/-! CALLS OF BOTH SIDES: PREFER -/
section OPS
variable {sc : (Nat → Int32) × Nat} {h : AH}
/-- 14: prefer -/
theorem op_14 (iv : INVA h) (p0 p1 : Int32) : opI sc 263 109 [.ref 0, .int p0, .int p1, .ref 69] [.ref 49, .int p0, .int p1] h := by
  obtain ⟨np, pl, R, m, Ro, A, I, X, T, F, pc, pa, pb, r, p, c, s, o⟩ := iv
  have hp := c.1.1
  have n70 := c.1.2
  have W := fun Q => w_263 (sc := sc) (d := 59) (h := h) (Q := Q) hp p0 p1
  have q0 := c.2.2.2.2.2.1.1
  have pf := c.2.2.2.2.2.2
  have n12 : A.length ≤ 12 := p.ok.1
  obtain ⟨cx, sx, ox, nx, ux⟩ := Q_mid p c s o (Or.inr rfl)
  have mx := MIV.mq p cx sx
  by_cases h1 : vp_in p0 A.length
  · obtain ⟨a, ha, rfl⟩ := vp_in_of h1 (by omega)
    by_cases h2 : vp_in p1 A.length
    · obtain ⟨b, hb, rfl⟩ := vp_in_of h2 (by omega)
      by_cases e : a = b
      · subst e
        exact opI_ref (E := 0) (k := 2) W (by omega) (by omega) (fun Q => d_15e q0 ha) (fun Q => m_109e mx.1 ha) o n70 (INV_th p c s o 2)
      · by_cases e6 : pc = 6
        · subst e6
          exact opI_ref (E := 1) (k := 3) W (by omega) (by omega) (fun Q => d_15f q0 pf ha hb e) (fun Q => m_109f mx.1 sx.2.2.2.2.2 ha hb e) o n70 (INV_th p c s o 3)
        · have p6 : pc < 6 := by have := pf.2.1; omega
          have f1 : FR h (ap_i (ap_i (ap_i h 29 pc (nI a)) 30 pc (nI b)) 28 2 (nI (pc + 1))) (fun a k => 28 ≤ a ∧ a ≤ 30) := (((FR.refl _ _).i (by omega)).i (by omega)).i (by omega)
          have f2 : FR h (ap_l (ap_i (ap_i (ap_i h 29 pc (nI a)) 30 pc (nI b)) 28 2 (nI (pc + 1))) 69 0 (nI (pc + 1)).toInt64) (fun a k => 28 ≤ a ∧ a ≤ 30 ∨ a = 69) := (f1.mono fun a k z => Or.inl z).trans f69 fun a k z => Or.inr z
          have s1 := s.cl (h' := ap_l (ap_i (ap_i (ap_i h 29 pc (nI a)) 30 pc (nI b)) 28 2 (nI (pc + 1))) 69 0 (nI (pc + 1)).toInt64) fun a k q1 q2 => ⟨f2.ci fun z => by omega, f2.cl fun z => by omega⟩
          have m1 := s1.q (hp.fr f2) p.ok p.2.2.2.2.2.2.1 p.2.2.2.2.2.2.2
          refine opI_ok W (fun Q => d_15 q0 pf p6 ha hb e) (fun Q => m_109 m1.1 s1.2.2.2.2.2 p6 ha hb e) (o.fr f1) l69 ?_ ?_
          · rw [ai_n (by omega), ai_n (by omega), ai_n (by omega), ai_y]
          · have e1 : ∀ j, j < pc + 1 → ah_i (ap_l (ap_i (ap_i (ap_i h 29 pc (nI a)) 30 pc (nI b)) 28 2 (nI (pc + 1))) 69 0 (nI (pc + 1)).toInt64) 29 j = nI (if j = pc then a else pa j) ∧ ah_i (ap_l (ap_i (ap_i (ap_i h 29 pc (nI a)) 30 pc (nI b)) 28 2 (nI (pc + 1))) 69 0 (nI (pc + 1)).toInt64) 30 j = nI (if j = pc then b else pb j) := fun j hj => by
              rw [ai_l, ai_l]
              by_cases w : j = pc
              · rw [if_pos w, if_pos w, w, ai_n (by omega), ai_n (by omega), ai_y, ai_n (by omega), ai_y]; exact ⟨rfl, rfl⟩
              · rw [if_neg w, if_neg w, ai_n (by omega), ai_n (by omega), ai_n (by omega), ai_n (by omega), ai_n (by omega), ai_n (by omega)]
                have := pf.2.2 j (by omega)
                exact ⟨this.1, this.2.1⟩
            have e2 : ah_i (ap_l (ap_i (ap_i (ap_i h 29 pc (nI a)) 30 pc (nI b)) 28 2 (nI (pc + 1))) 69 0 (nI (pc + 1)).toInt64) 28 2 = nI (pc + 1) := by rw [ai_l, ai_y]
            generalize ap_l (ap_i (ap_i (ap_i h 29 pc (nI a)) 30 pc (nI b)) 28 2 (nI (pc + 1))) 69 0 (nI (pc + 1)).toInt64 = h1 at *
            have f3 : FR h (ap_i (ap_i (ap_i (ap_i h1 49 0 (nI 0)) 56 (2 * pc) (nI a)) 56 (2 * pc + 1) (nI b)) 49 12 (nI (pc + 1))) (fun a k => (28 ≤ a ∧ a ≤ 30 ∨ a = 69) ∨ (a = 49 ∧ (k = 0 ∨ k = 12) ∨ a = 56)) := (f2.mono fun a k z => Or.inl z).trans ((((FR.refl h1 (fun a k => a = 49 ∧ (k = 0 ∨ k = 12) ∨ a = 56)).i (Or.inl ⟨rfl, Or.inl rfl⟩)).i (Or.inr rfl)).i (Or.inr rfl) |>.i (Or.inl ⟨rfl, Or.inr rfl⟩)) fun a k z => Or.inr z
            have g1 : ∀ j, j < pc + 1 → ah_i (ap_i (ap_i (ap_i (ap_i h1 49 0 (nI 0)) 56 (2 * pc) (nI a)) 56 (2 * pc + 1) (nI b)) 49 12 (nI (pc + 1))) 29 j = nI (if j = pc then a else pa j) ∧ ah_i (ap_i (ap_i (ap_i (ap_i h1 49 0 (nI 0)) 56 (2 * pc) (nI a)) 56 (2 * pc + 1) (nI b)) 49 12 (nI (pc + 1))) 30 j = nI (if j = pc then b else pb j) := fun j hj => by
              rw [ai_n (by omega), ai_n (by omega), ai_n (by omega), ai_n (by omega), ai_n (by omega), ai_n (by omega), ai_n (by omega), ai_n (by omega)]; exact e1 j hj
            have g2 : ah_i (ap_i (ap_i (ap_i (ap_i h1 49 0 (nI 0)) 56 (2 * pc) (nI a)) 56 (2 * pc + 1) (nI b)) 49 12 (nI (pc + 1))) 28 2 = nI (pc + 1) := by
              rw [ai_n (by omega), ai_n (by omega), ai_n (by omega), ai_n (by omega)]; exact e2
            have g3 : ∀ j, j < pc + 1 → ah_i (ap_i (ap_i (ap_i (ap_i h1 49 0 (nI 0)) 56 (2 * pc) (nI a)) 56 (2 * pc + 1) (nI b)) 49 12 (nI (pc + 1))) 56 (2 * j) = nI (if j = pc then a else pa j) ∧ ah_i (ap_i (ap_i (ap_i (ap_i h1 49 0 (nI 0)) 56 (2 * pc) (nI a)) 56 (2 * pc + 1) (nI b)) 49 12 (nI (pc + 1))) 56 (2 * j + 1) = nI (if j = pc then b else pb j) := fun j hj => by
              by_cases w : j = pc
              · rw [if_pos w, if_pos w, w, ai_n (by omega), ai_n (by omega), ai_y, ai_n (by omega), ai_y]; exact ⟨rfl, rfl⟩
              · rw [if_neg w, if_neg w, ai_n (by omega), ai_n (by omega), ai_n (by omega), ai_n (by omega), ai_n (by omega), ai_n (by omega), ai_n (by omega), ai_n (by omega)]
                have := s1.2.2.2.2.2.2.2 j (by omega)
                exact ⟨this.1, this.2.1⟩
            have g4 : ah_i (ap_i (ap_i (ap_i (ap_i h1 49 0 (nI 0)) 56 (2 * pc) (nI a)) 56 (2 * pc + 1) (nI b)) 49 12 (nI (pc + 1))) 49 12 = nI (pc + 1) := ai_y
            have bd : ∀ j, j < pc + 1 → (if j = pc then a else pa j) < 12 ∧ (if j = pc then b else pb j) < 12 := fun j hj => by
              by_cases w : j = pc
              · rw [if_pos w, if_pos w]; omega
              · rw [if_neg w, if_neg w]
                have := pf.2.2 j (by omega)
                exact this.2.2
            generalize ap_i (ap_i (ap_i (ap_i h1 49 0 (nI 0)) 56 (2 * pc) (nI a)) 56 (2 * pc + 1) (nI b)) 49 12 (nI (pc + 1)) = hm at *
            have fv := f3.v fun _ _ => False
            have r3 : r = 3 ∨ 70 ≤ r := c.2.2.1.2.1
            have nn : ∀ b k, (b < 28 ∨ 30 < b) → b ≠ 69 → b ≠ 49 → b ≠ 56 → ¬ ((28 ≤ b ∧ b ≤ 30 ∨ b = 69) ∨ (b = 49 ∧ (k = 0 ∨ k = 12) ∨ b = 56)) := fun b k z1 z2 z3 z4 y => by omega
            refine ⟨⟨np, pl, R, m, Ro, A, I, X, T, F, pc + 1, (fun j => if j = pc then a else pa j), (fun j => if j = pc then b else pb j), r, p, ?_, ?_, o.fr f3⟩, by rw [f3.1]; omega, by rw [f3.2.1]; omega⟩
            · obtain ⟨⟨c1, n70⟩, c2, ⟨d, c4, c5⟩, c6, c7, c8, c9⟩ := c
              have q : ∀ q, rpl q → q + 15 < r → ∀ j k, j < 16 → ¬ ((28 ≤ q + j ∧ q + j ≤ 30 ∨ q + j = 69) ∨ (q + j = 49 ∧ (k = 0 ∨ k = 12) ∨ q + j = 56)) := fun q hq _ j k hj => by
                have q3 : q = 3 ∨ 70 ≤ q := hq
                omega
              exact ⟨⟨c1.fr f3, by rw [f3.1]; exact n70⟩, c2.fv fv (by omega) (fun k => by omega), ⟨d.fv fv (fun _ _ z => z.elim) (fun j k hj => by omega) c4, c4, by rw [f3.1]; exact c5⟩, c6.fv fv (fun _ _ z => z.elim) (by omega) q, c7.fv fv (fun b k h1 h2 => by omega),
                c8.fv c6 (CIV.irs p) fv (fun _ _ z => z.elim) (fun k _ => by omega) (fun k => by omega) (by omega) (fun b k h1 h2 => by omega) (fun k => by omega) (fun k => by omega) q, g2, by omega, fun j hj => ⟨(g1 j hj).1, (g1 j hj).2, (bd j hj).1, (bd j hj).2⟩⟩
            · have gi : ∀ b k, 49 ≤ b → b ≤ 68 → b ≠ 56 → ¬ (b = 49 ∧ (k = 0 ∨ k = 12)) → ah_i hm b k = ah_i h b k := fun b k h1 h2 h3 h4 => f3.ci fun z => by omega
              have gl : ∀ b k, 49 ≤ b → b ≤ 68 → b ≠ 56 → ¬ (b = 49 ∧ (k = 0 ∨ k = 12)) → ah_l hm b k = ah_l h b k := fun b k h1 h2 h3 h4 => f3.cl fun z => by omega
              obtain ⟨s1, s2, s3, ⟨s4, s4b⟩, s5, s7⟩ := s
              refine ⟨?_, s2.c fun j => gi 51 j (by omega) (by omega) (by omega) (by omega), ⟨s3.1.fr f3 fun k z => by omega, by rw [gi _ _ (by omega) (by omega) (by omega) (by omega)]; exact s3.2⟩, ?_, ?_, g4, by omega, fun j hj => ⟨(g3 j hj).1, (g3 j hj).2, (bd j hj).1, (bd j hj).2⟩⟩
              · unfold PLM at *
                simp (disch := omega) only [gi]
                exact s1
              · unfold MG HWK at *
                simp (disch := omega) only [gi]
                exact ⟨s4, s4b⟩
              · clear g1 g2 g3 g4 e1 e2 m1 bd s7
                unfold RMP RMI RMX MCS MSR at *
                simp (disch := omega) only [gi, gl]
                exact s5
    · exact opI_ref (E := 2) (k := 1) W (by omega) (by omega) (fun Q => d_15b q0 ha h2) (fun Q => m_109a mx.1 fun z => h2 z.2) o n70 (INV_th p c s o 1)
  · exact opI_ref (E := 2) (k := 1) W (by omega) (by omega) (fun Q => d_15a q0 h1 p1) (fun Q => m_109a mx.1 fun z => h1 z.1) o n70 (INV_th p c s o 1)
end OPS
