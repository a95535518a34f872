/-! HEAPS THAT AGREE BELOW AN ADDRESS -/
def AG (N : Nat) (h h' : AH) : Prop := ∀ a, a < N → ah_k h' a = ah_k h a ∧ ah_z h' a = ah_z h a ∧ ∀ k, ah_i h' a k = ah_i h a k ∧ ah_l h' a k = ah_l h a k ∧ ah_r h' a k = ah_r h a k
theorem k_99 {h : AH} {a : Nat} (n : ah_n h ≤ a) : ah_k h a = 99 := by
  unfold ah_k ah_n at *
  exact if_neg (by omega)
theorem AG.k {N : Nat} {h h' : AH} (g : AG N h h') : ∀ a, a < N → ah_k h' a = ah_k h a := fun a n => (g a n).1
theorem AG.z {N : Nat} {h h' : AH} (g : AG N h h') : ∀ a, a < N → ah_z h' a = ah_z h a := fun a n => (g a n).2.1
theorem AG.i {N : Nat} {h h' : AH} (g : AG N h h') : ∀ a k, a < N → ah_i h' a k = ah_i h a k := fun a k n => ((g a n).2.2 k).1
theorem AG.l {N : Nat} {h h' : AH} (g : AG N h h') : ∀ a k, a < N → ah_l h' a k = ah_l h a k := fun a k n => ((g a n).2.2 k).2.1
theorem AG.r {N : Nat} {h h' : AH} (g : AG N h h') : ∀ a k, a < N → ah_r h' a k = ah_r h a k := fun a k n => ((g a n).2.2 k).2.2
theorem AG.refl (N : Nat) (h : AH) : AG N h h := fun _ _ => ⟨rfl, rfl, fun _ => ⟨rfl, rfl, rfl⟩⟩
theorem AG.trans {N M : Nat} {h h1 h2 : AH} (a : AG N h h1) (b : AG M h1 h2) (m : N ≤ M) : AG N h h2 := fun x n => by
  have q := b x (Nat.lt_of_lt_of_le n m)
  have p := a x n
  exact ⟨q.1.trans p.1, q.2.1.trans p.2.1, fun k => ⟨(q.2.2 k).1.trans (p.2.2 k).1, (q.2.2 k).2.1.trans (p.2.2 k).2.1, (q.2.2 k).2.2.trans (p.2.2 k).2.2⟩⟩
theorem an_n {h : AH} {kd len us : Nat} : ah_n (ap_n h kd len us) = ah_n h + 1 := rfl
theorem au_n {h : AH} {kd len us : Nat} : ah_u (ap_n h kd len us) = ah_u h + us := rfl
theorem ak_n {h : AH} {kd len us b : Nat} : ah_k (ap_n h kd len us) b = if b = ah_n h then kd else ah_k h b := by
  unfold ah_k ap_n ah_n
  by_cases e : b = h.1
  · simp [e]
  · have : b < h.1 + 1 ↔ b < h.1 := by omega
    simp only [e, this, if_false]
theorem az_n {h : AH} {kd len us b : Nat} : ah_z (ap_n h kd len us) b = if b = ah_n h then len else ah_z h b := by
  unfold ah_z ap_n ah_n
  by_cases e : b = h.1 <;> simp [e]
theorem ai_nw {h : AH} {kd len us b j : Nat} : ah_i (ap_n h kd len us) b j = if b = ah_n h then 0 else ah_i h b j := rfl
theorem al_n {h : AH} {kd len us b j : Nat} : ah_l (ap_n h kd len us) b j = if b = ah_n h then 0 else ah_l h b j := rfl
theorem ar_n {h : AH} {kd len us b j : Nat} : ah_r (ap_n h kd len us) b j = if b = ah_n h then none else ah_r h b j := rfl
theorem AG.n {N : Nat} {h h' : AH} (g : AG N h h') (hn : N ≤ ah_n h') (kd len us : Nat) : AG N h (ap_n h' kd len us) := fun a n => by
  have e : a ≠ ah_n h' := by omega
  obtain ⟨g1, g2, g3⟩ := g a n
  refine ⟨?_, ?_, fun k => ⟨?_, ?_, ?_⟩⟩
  · rw [ak_n, if_neg e]; exact g1
  · rw [az_n, if_neg e]; exact g2
  · rw [ai_nw, if_neg e]; exact (g3 k).1
  · rw [al_n, if_neg e]; exact (g3 k).2.1
  · rw [ar_n, if_neg e]; exact (g3 k).2.2
section AGR
variable {N : Nat} {h h' : AH}
theorem SHP.ag (s : SHP h) (g : AG N h h') (n : 70 ≤ N) : SHP h' := by
  unfold SHP SH0 SH19 SH23 SH27 SH28 SH31 SH43 SH45 SH46 SH49 at *
  simp (disch := omega) only [g.k, g.z, g.r]
  exact s
theorem PLC.ag {np : Nat} {pl : Nat → Nat} (s : PLC h np pl) (g : AG N h h') (n : 70 ≤ N) : PLC h' np pl := by
  unfold PLC at *
  simp (disch := omega) only [g.i]
  exact s
theorem EX.ag {x A T F : Nat} (s : EX h x A T F) (g : AG N h h') (n : 70 ≤ N) : EX h' x A T F := by
  unfold EX at *
  simp (disch := omega) only [g.i]
  exact s
theorem PRF.ag {pc : Nat} {pa pb : Nat → Nat} (s : PRF h pc pa pb) (g : AG N h h') (n : 70 ≤ N) : PRF h' pc pa pb := by
  unfold PRF at *
  simp (disch := omega) only [g.i]
  exact s
theorem CSH.ag {P : PG} {T F : Nat} (s : CSH h P T F) (g : AG N h h') (n : 70 ≤ N) : CSH h' P T F := by
  unfold CSH SRC CHP FD at *
  simp (disch := omega) only [g.i, g.l]
  exact s
theorem CA.ag {a : Nat} {c : Nat → Nat} (s : CA h a c) (g : AG N h h') (n : a < N) : CA h' a c := by
  unfold CA at *
  simp (disch := omega) only [g.i, g.k, g.z]
  exact s
theorem GC.ag {a : Nat} {S : gS} (s : GC h a S) (g : AG N h h') (n : a + 3 < N) : GC h' a S := by
  unfold GC GAt GIn at *
  simp (disch := omega) only [g.i]
  exact s
theorem RSh.ag {r : Nat} (s : RSh h r) (g : AG N h h') (n : r + 15 < N) : RSh h' r := by
  obtain ⟨s1, s2, s3, s4, s5, s6, s7, s8, s9, s10, s11, s12, s13, s14, s15, s16, s17, s18, s19, s20⟩ := s
  unfold RSh
  simp (disch := omega) only [g.k, g.z, g.r]
  refine ⟨s1, s2, s3, s4, s5, s6, s7, s8, s9, s10, s11, s12, s13, s14, s15, s16, s17, s18, s19, fun l hl => ?_⟩
  have el : eO l < 12 := by
    have : l = 0 ∨ l = 1 ∨ l = 2 ∨ l = 3 ∨ l = 4 := by omega
    rcases this with rfl | rfl | rfl | rfl | rfl <;> decide
  have := s20 l hl
  unfold ESh at *
  rw [g.k _ (by omega), g.k _ (by omega), g.z _ (by omega), g.r _ _ (by omega)]
  exact this
theorem RCo.ag {r : Nat} {R : RW} (c : RCo h r R) (g : AG N h h') (n : r + 15 < N) : RCo h' r R := by
  unfold RCo at *
  obtain ⟨c1, c2, c3, c4, c5, c6, c7, c8, c9, c10⟩ := c
  have e : ∀ a k, a < N → ah_i h' a k = ah_i h a k := g.i
  refine ⟨by rw [e _ _ (by omega)]; exact c1, ?_, ?_, ?_, ?_, by rw [e _ _ (by omega)]; exact c6, ?_, ?_, by rw [e _ _ (by omega)]; exact c9, ?_⟩
  · rw [e _ _ (by omega), e _ _ (by omega)]; exact c2
  · rw [e _ _ (by omega), e _ _ (by omega)]; exact c3
  · rw [e _ _ (by omega), e _ _ (by omega), e _ _ (by omega)]; exact c4
  · intro l hl
    have el : eO l < 12 := by
      have : l = 0 ∨ l = 1 ∨ l = 2 ∨ l = 3 ∨ l = 4 := by omega
      rcases this with rfl | rfl | rfl | rfl | rfl <;> decide
    rw [e _ _ (by omega), e _ _ (by omega)]
    refine ⟨(c5 l hl).1, (c5 l hl).2.1, fun k hk => ?_⟩
    rw [e _ _ (by omega)]
    exact (c5 l hl).2.2 k hk
  · rw [e _ _ (by omega), e _ _ (by omega)]; exact c7
  · intro k hk
    rw [e _ _ (by omega)]; exact c8 k hk
  · intro v hv q
    rw [e _ _ (by omega), e _ _ (by omega)]; exact c10 v hv q
theorem RU.ag {r : Nat} {R : RW} (c : RU h r R) (g : AG N h h') (n : r + 15 < N) : RU h' r R := ⟨c.1.ag g n, c.2.1.ag g n, by
  have := c.2.2.1
  unfold LKD at *
  rw [g.i _ _ (by omega), g.i _ _ (by omega)]
  exact this, c.2.2.2⟩
theorem CP.ag {P : PG} (s : CP h P) (g : AG N h h') (n : 70 ≤ N) (w : ah_n h ≤ N) : CP h' P := by
  obtain ⟨s1, ⟨⟨r1, r2, r3, r4, r5, r6, r7, r8⟩, t1, t2⟩, s3⟩ := s
  refine ⟨s1.ag g n, ⟨⟨?_, ?_, ?_, ?_, ?_, ?_, ?_, fun i hi => ?_⟩, fun s hs => ?_, fun p hp => ?_⟩, s3⟩
  · rw [g.i _ _ (by omega)]; exact r1
  · rw [g.i _ _ (by omega)]; exact r2
  · rw [g.l _ _ (by omega)]; exact r3
  · rw [g.l _ _ (by omega)]; exact r4
  · rw [g.l _ _ (by omega)]; exact r5
  · rw [g.l _ _ (by omega)]; exact r6
  · rw [g.l _ _ (by omega)]; exact r7
  · obtain ⟨v1, v2, v3, v4, r, v5, u1, u2, u3, u4, u5, u⟩ := r8 i hi
    have l1 : r < N := Nat.lt_of_not_le fun q => by have := k_99 (Nat.le_trans w q); omega
    have l2 : r + 1 < N := Nat.lt_of_not_le fun q => by have := k_99 (Nat.le_trans w q); omega
    have l3 : r + 10 < N := Nat.lt_of_not_le fun q => by have := k_99 (Nat.le_trans w q); omega
    refine ⟨by rw [g.i _ _ (by omega)]; exact v1, by rw [g.i _ _ (by omega)]; exact v2, by rw [g.i _ _ (by omega)]; exact v3, fun q a ha => by rw [g.l _ _ (by omega)]; exact v4 q a ha, r, by rw [g.r _ _ (by omega)]; exact v5, ?_⟩
    unfold RuI
    simp (disch := omega) only [g.k, g.r, g.i]
    exact ⟨u1, u2, u3, u4, u5, u⟩
  · rw [g.l _ _ (by omega)]; exact t1 s hs
  · rw [g.l _ _ (by omega), g.l _ _ (by omega)]; exact t2 p hp
end AGR

