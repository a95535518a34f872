/-! THE OBJECT ALONE: PREDICATE, ENTER, EXTERNAL, ASSIGN, PREFER -/
section OBJ
variable {h : AH} {np : Nat} {pl : Nat → Nat} {R : RW} {m : Nat} {Ro : Nat → RW} {A I : List Nat} {X T F pc : Nat} {pa pb : Nat → Nat} {r : Nat} {Es : List Nat} {E c : Nat} {args : List Value}
/-- enter -/
theorem oq_12 (p : PIV np R m Ro A I X T F) : OPI [0, 1] 12 [] (np, pl, R, m, Ro, A, I, X, T, F, pc, pa, pb) := by
  have o6 := R_ok_mono p.1 p.2.1
  have m20 := p.2.2.1.1
  by_cases sf : sfR R
  · by_cases good : m < 20 ∧ (gal (ins Ro m R) (m + 1) 62 (A, I, true)).2.2 = true
    · obtain ⟨l, ok⟩ := good
      have o' : RsO (ins Ro m R) (m + 1) := ⟨by omega, fun n hn => by
        unfold ins
        by_cases w : n = m
        · rw [if_pos w]; exact o6
        · rw [if_neg w]; exact p.2.2.1.2 n (by omega)⟩
      have g0 := GV_ins (R := R) p.2.2.1 o' p.2.2.2.1
      have gv := GV_al (t := 62) o' g0
      have cl := GV_cl o' g0 ok
      have Xg := gal_x (ins Ro m R) (m + 1) 62 (A, I, true)
      generalize hS : gal (ins Ro m R) (m + 1) 62 (A, I, true) = S' at *
      have hA := Xg.len.1
      have hA : A.length ≤ S'.1.length := hA
      obtain ⟨⟨B, e1⟩, _, _⟩ := Xg
      have e1 : S'.1 = A ++ B := e1
      have ir' := irs_of o' gv
      have eS : S' = (S'.1, S'.2.1, true) := by rw [← ok]
      have E1 : ∀ z, exA A X z → exA S'.1 X z := exA_mono (fun k hk => ⟨by omega, by rw [e1, lat_app hk]⟩) fun _ q => q
      have p2 : PIV np (clrR R) (m + 1) (ins Ro m R) S'.1 S'.2.1 X T F := ⟨ok_clr R, p.2.1, o', by rw [← eS]; exact GV_E E1 gv, by rw [← eS]; exact cl, Nat.lt_of_lt_of_le p.2.2.2.2.2.1 (p2_le hA), Nat.lt_of_lt_of_le p.2.2.2.2.2.2.1 (p2_le hA), Nat.lt_of_lt_of_le p.2.2.2.2.2.2.2 (p2_le hA)⟩
      refine ⟨.inl (some (.int (nI m))), (np, pl, clrR R, m + 1, ins Ro m R, S'.1, S'.2.1, X, T, F, pc, pa, pb), ?_, p2, Or.inl ⟨m, by omega, rfl⟩⟩
      rintro sc h ⟨r, c⟩
      have cL := c.lk p
      have lk := (hLk_ok (h := h) c.2.2.1.1.2.2.1).1
      have lkf := lk_fr (h := h) (r := r) (R := R)
      obtain ⟨b, gc⟩ := cL.2.2.2.2.1.1
      have D := d_12 (sc := sc) (d := 39) cL.1.1 cL.1.2 cL.2.2.2.1.1 cL.2.2.2.1.2.1 cL.2.2.1.1.1 (cL.2.2.2.1.2.2.1 m (Nat.le_refl _) l) ⟨cL.2.2.1.1.2.1, cL.2.2.1.1.2.2.1, lk, o6⟩ cL.2.2.1.2.1 cL.2.2.1.2.2 cL.2.2.2.1.2.2.2 gc cL.2.2.2.2.1.2.1 l hS ok ir'
      refine (d_12h (d := 39) c.1.1 c.2.2.1.1 c.2.2.1.2.1 o6).2 sf (TT_mono D ?_)
      intro q h1 t
      obtain ⟨c2, ou, n2, u2, eq⟩ := CIVen p cL o6 l hA ok ir' lk t
      refine ⟨t.1, ⟨_, c2⟩, ?_, ?_⟩
      · rw [n2, lkf.1]; omega
      · rw [u2, lkf.2.1]; omega
    · have bad : m = 20 ∨ m < 20 ∧ (gal (ins Ro m R) (m + 1) 62 (A, I, true)).2.2 = false := by
        by_cases l12 : m = 20
        · exact Or.inl l12
        · right
          refine ⟨by omega, ?_⟩
          cases q : (gal (ins Ro m R) (m + 1) 62 (A, I, true)).2.2
          · rfl
          · exact absurd ⟨by omega, q⟩ good
      refine ⟨.inr 1, (np, pl, R, m, Ro, A, I, X, T, F, pc, pa, pb), ?_, p, Or.inr ⟨1, by decide, rfl, rfl⟩⟩
      rintro sc h ⟨r, c⟩
      have cL := c.lk p
      have lk := (hLk_ok (h := h) c.2.2.1.1.2.2.1).1
      have lkf := lk_fr (h := h) (r := r) (R := R)
      obtain ⟨b, gc⟩ := cL.2.2.2.2.1.1
      have D := d_12r (sc := sc) (d := 39) cL.1.1 cL.2.2.2.1.1 cL.2.2.2.1.2.1 cL.2.2.1.1.1 (fun l => cL.2.2.2.1.2.2.1 m (Nat.le_refl _) l) ⟨cL.2.2.1.1.2.1, cL.2.2.1.1.2.2.1, lk, o6⟩ cL.2.2.1.2.1 gc cL.2.2.2.2.1.2.1 bad
      refine (d_12h (d := 39) c.1.1 c.2.2.1.1 c.2.2.1.2.1 o6).2 sf (TT_mono D ?_)
      rintro q hx ⟨rfl, h1, f1, g1, a1, rfl⟩
      refine ⟨rfl, ⟨r, (cL.sg p f1 g1 a1).ag (AG_th h1) (Nat.le_succ _)⟩, ?_, ?_⟩
      · show ah_n h1 + 1 ≤ _; rw [f1.1, lkf.1]; omega
      · show ah_u h1 + 6 ≤ _; rw [f1.2.1, lkf.2.1]; omega
  · refine ⟨.inr 0, (np, pl, R, m, Ro, A, I, X, T, F, pc, pa, pb), ?_, p, Or.inr ⟨0, by decide, rfl, rfl⟩⟩
    rintro sc h ⟨r, c⟩
    have lkf := lk_fr (h := h) (r := r) (R := R)
    refine (d_12h (d := 39) c.1.1 c.2.2.1.1 c.2.2.1.2.1 o6).1 sf ⟨rfl, ⟨r, (c.lk p).ag (AG_th _) (Nat.le_succ _)⟩, ?_, ?_⟩
    · show ah_n (hLk h r R) + 1 ≤ _; rw [lkf.1]; omega
    · show ah_u (hLk h r R) + 6 ≤ _; rw [lkf.2.1]; omega
/-- external -/
theorem oq_13 (p : PIV np R m Ro A I X T F) (p0 p1 p2 : Int32) : OPI [0, 1, 2] 13 [.int p0, .int p1, .int p2] (np, pl, R, m, Ro, A, I, X, T, F, pc, pa, pb) := by
  have np6 := p.2.1
  by_cases h1 : vp_in p0 np
  · obtain ⟨p', hp1, rfl⟩ := vp_in_of h1 (by omega)
    cases ht : trmB pl p' (nI 0) p1 p2
    · exact oq_ref (E := 0) p (by decide) fun sc h r c Q => d_13n c.1.1 c.2.1 hp1 ht
    · obtain ⟨x, y, hx, hy, rfl, rfl⟩ := trm_c ht
      have a12 : A.length ≤ 12 := p.ok.1
      have nd : A.Nodup := p.2.2.2.1.1.1
      by_cases mem : p' * 100 + x * 10 + y ∈ A
      · obtain ⟨i1, i2, i3⟩ := idx_i mem
        obtain ⟨k, e⟩ : ∃ k, idx A (p' * 100 + x * 10 + y) = k + 1 := ⟨idx A (p' * 100 + x * 10 + y) - 1, by omega⟩
        have hk : k < A.length := by omega
        have p2 : PIV np R m Ro A I (X ||| 2 ^ k) T F := ⟨p.1, p.2.1, p.2.2.1, GV_E (exA_mono (fun k hk => ⟨hk, rfl⟩) fun j q => by rw [Nat.testBit_or, q, Bool.true_or]) p.2.2.2.1, p.2.2.2.2.1, or_lt p.2.2.2.2.2.1 (p2_lt hk), p.2.2.2.2.2.2⟩
        refine ⟨.inl (some (.int (nI k))), (np, pl, R, m, Ro, A, I, X ||| 2 ^ k, T, F, pc, pa, pb), ?_, p2, Or.inl ⟨k, by omega, rfl⟩⟩
        rintro sc h ⟨r, c⟩
        have hp := c.1.1
        obtain ⟨b, gc⟩ := c.2.2.2.2.1.1
        have ca := c.2.2.2.2.1.2.1
        have x0 := c.2.2.2.2.2.1.1.2.1.1
        have f1 : FR h (ap_i h 27 0 (nI (X ||| 2 ^ k))) (fun a j => a = 27 ∧ j = 0) := (FR.refl _ _).i ⟨rfl, rfl⟩
        have s27 := ss_27 hp
        have c2 : CIV (ap_i h 27 0 (nI (X ||| 2 ^ k))) np pl R m Ro A I (X ||| 2 ^ k) T F pc pa pb r := by
          refine c.x p (Nat.le_refl _) hk ((f1.v V32).mono (fun a j z => Or.inr (Or.inr (Or.inl z))) fun _ _ z => z) (GC_fr gc f1 fun a j z y => by have := z.2; omega) ?_ ?_ (fun i hi => c.2.2.2.2.2.1.2 i hi) ai_y (c.2.2.2.2.2.1.1.2.2.2.fv (f1.v fun _ _ => False) (fun k _ z => by omega) (fun k z => by omega) (fun k z => by omega))
          · obtain ⟨c0, ca⟩ := ca
            exact ⟨c0, ca.fr f1 fun k z => by omega⟩
          · refine c.2.2.2.2.2.1.1.1.fr f1 (fun a j z => ?_) (fun k z => by omega) (fun k z => by omega) (fun k z => by omega) (fun k z => by omega) (fun k z => by omega) (fun k z => by omega) (fun k z => by omega) (fun k z => by omega)
            rw [z.1, s27]; decide
        refine (d_13y (d := 39) hp c.2.1 gc hp1 hx hy ht e x0).mpr ⟨rfl, ⟨r, c2⟩, ?_, ?_⟩
        · rw [f1.1]; omega
        · rw [f1.2.1]; omega
      · have K6 : p' * 100 + x * 10 + y < 600 := by omega
        by_cases good : A.length < 12 ∧ (gal Ro m 62 (A ++ [p' * 100 + x * 10 + y], I, true)).2.2 = true
        · obtain ⟨l, ok⟩ := good
          have Xg := gal_x Ro m 62 (A ++ [p' * 100 + x * 10 + y], I, true)
          have GVs : ∀ E : Nat → Prop, (∀ z, exA A X z → E z) → E (p' * 100 + x * 10 + y) → GV E Ro m (gal Ro m 62 (A ++ [p' * 100 + x * 10 + y], I, true)) ∧ gcl Ro m (gal Ro m 62 (A ++ [p' * 100 + x * 10 + y], I, true)) := fun E hE hx' => by
            have g0 := GV_x (GV_E hE p.2.2.2.1) mem K6 l hx'
            exact ⟨GV_al p.2.2.1 g0, GV_cl p.2.2.1 g0 ok⟩
          generalize hS : gal Ro m 62 (A ++ [p' * 100 + x * 10 + y], I, true) = S' at *
          obtain ⟨⟨B, e1⟩, ⟨J, e2⟩, _⟩ := Xg
          have e1 : S'.1 = A ++ [p' * 100 + x * 10 + y] ++ B := e1
          have hA : A.length ≤ S'.1.length := by rw [e1, List.length_append, List.length_append, List.length_singleton]; omega
          have hk : A.length < S'.1.length := by rw [e1, List.length_append, List.length_append, List.length_singleton]; omega
          have sub : ∀ k, k < A.length → k < S'.1.length ∧ lat S'.1 k = lat A k := fun k hk => ⟨by omega, by rw [e1, lat_app (by rw [List.length_append]; omega), lat_app hk]⟩
          have E1 : ∀ z, exA A X z → exA S'.1 (X ||| 2 ^ A.length) z := exA_mono sub fun j q => by rw [Nat.testBit_or, q, Bool.true_or]
          have E2 : exA S'.1 (X ||| 2 ^ A.length) (p' * 100 + x * 10 + y) := ⟨A.length, hk, by rw [Nat.testBit_or, tb_pow]; simp, by rw [e1, lat_app (by rw [List.length_append, List.length_singleton]; omega), lat_new]⟩
          obtain ⟨gv, cl⟩ := GVs _ E1 E2
          have ir' := irs_of p.2.2.1 gv
          have ide : idx S'.1 (p' * 100 + x * 10 + y) = A.length + 1 := by
            have := gv.1.1
            rw [e1] at this ⊢
            exact idx_mid this
          have eS : S' = (S'.1, S'.2.1, true) := by rw [← ok]
          have p2 : PIV np R m Ro S'.1 S'.2.1 (X ||| 2 ^ A.length) T F := ⟨p.1, p.2.1, p.2.2.1, by rw [← eS]; exact gv, by rw [← eS]; exact cl, or_lt (Nat.lt_of_lt_of_le p.2.2.2.2.2.1 (p2_le hA)) (p2_lt hk), Nat.lt_of_lt_of_le p.2.2.2.2.2.2.1 (p2_le hA), Nat.lt_of_lt_of_le p.2.2.2.2.2.2.2 (p2_le hA)⟩
          refine ⟨.inl (some (.int (nI A.length))), (np, pl, R, m, Ro, S'.1, S'.2.1, X ||| 2 ^ A.length, T, F, pc, pa, pb), ?_, p2, Or.inl ⟨A.length, by omega, rfl⟩⟩
          rintro sc h ⟨r, c⟩
          obtain ⟨b, gc⟩ := c.2.2.2.2.1.1
          refine TC_mono (d_13 (d := 39) c.1.1 c.2.1 c.2.2.2.1.1 c.2.2.2.1.2.1 gc c.2.2.2.2.1.2.1 hp1 hx hy ht mem l hS ok ir' c.2.2.2.2.2.1.1.2.1.1 ide) ?_
          rintro q h1 ⟨rfl, f1, g1, a1, cp, rf, x1, t13⟩
          have c2 : CIV h1 np pl R m Ro S'.1 S'.2.1 (X ||| 2 ^ A.length) T F pc pa pb r := c.x p hA hk f1 (by rw [eS] at g1; exact g1) a1 cp rf x1 (Or.inl t13)
          refine ⟨rfl, ⟨r, c2⟩, ?_, ?_⟩
          · rw [f1.1]; omega
          · rw [f1.2.1]; omega
        · have bad : A.length = 12 ∨ A.length < 12 ∧ (gal Ro m 62 (A ++ [p' * 100 + x * 10 + y], I, true)).2.2 = false := by
            by_cases l12 : A.length = 12
            · exact Or.inl l12
            · right
              refine ⟨by omega, ?_⟩
              cases q : (gal Ro m 62 (A ++ [p' * 100 + x * 10 + y], I, true)).2.2
              · rfl
              · exact absurd ⟨by omega, q⟩ good
          refine ⟨.inr 1, (np, pl, R, m, Ro, A, I, X, T, F, pc, pa, pb), ?_, p, Or.inr ⟨1, by decide, rfl, rfl⟩⟩
          rintro sc h ⟨r, c⟩
          obtain ⟨b, gc⟩ := c.2.2.2.2.1.1
          refine TC_mono (d_13r (d := 39) c.1.1 c.2.1 c.2.2.2.1.1 c.2.2.2.1.2.1 gc c.2.2.2.2.1.2.1 hp1 hx hy ht mem bad) ?_
          rintro q hx2 ⟨rfl, h1, f1, g1, a1, rfl⟩
          refine ⟨rfl, ⟨r, (c.sg p f1 g1 a1).ag (AG_th h1) (Nat.le_succ _)⟩, ?_, ?_⟩
          · show ah_n h1 + 1 ≤ _; rw [f1.1]; omega
          · show ah_u h1 + 6 ≤ _; rw [f1.2.1]; omega
  · exact oq_ref (E := 2) p (by decide) fun sc h r c Q => d_13p c.1.1 c.2.1 h1 p1 p2
/-- assign -/
theorem oq_14 (p : PIV np R m Ro A I X T F) (p0 p1 : Int32) : OPI [0, 1, 2] 14 [.int p0, .int p1] (np, pl, R, m, Ro, A, I, X, T, F, pc, pa, pb) := by
  have n12 : A.length ≤ 12 := p.ok.1
  by_cases h1 : vp_in p0 A.length
  · obtain ⟨a, ha, rfl⟩ := vp_in_of h1 (by omega)
    by_cases h2 : vp_in p1 3
    · obtain ⟨st, hs, rfl⟩ := vp_in_of h2 (by omega)
      cases hx : X.testBit a
      · exact oq_ref (E := 1) p (by decide) fun sc h r c Q => d_14n c.2.2.2.2.2.1.1 ha hs hx
      · have sn : stN T F a ≤ 2 := by
          unfold stN
          split
          · omega
          · split <;> omega
        have p' : PIV np R m Ro A I X (asT T a st) (asF F a st) := ⟨p.1, p.2.1, p.2.2.1, p.2.2.2.1, p.2.2.2.2.1, p.2.2.2.2.2.1, asT_lt p.2.2.2.2.2.2.1 ha, asF_lt p.2.2.2.2.2.2.2 ha⟩
        refine ⟨.inl (some (.int (nI (stN T F a)))), (np, pl, R, m, Ro, A, I, X, asT T a st, asF F a st, pc, pa, pb), ?_, p', Or.inl ⟨_, by omega, rfl⟩⟩
        rintro sc h ⟨r, c⟩
        have f3 : FR h (ap_i (ap_i (ap_i h 27 1 (nI (asT T a st))) 27 2 (nI (asF F a st))) 0 13 (nI 0)) (fun a k => a = 27 ∧ (k = 1 ∨ k = 2) ∨ a = 0 ∧ k = 13) := (((FR.refl _ _).i (Or.inl ⟨rfl, Or.inl rfl⟩)).i (Or.inl ⟨rfl, Or.inr rfl⟩)).i (Or.inr ⟨rfl, rfl⟩)
        refine (d_14 c.2.2.2.2.2.1.1 ha hs hx).mpr ?_
        have e1 : ah_i (ap_i (ap_i (ap_i h 27 1 (nI (asT T a st))) 27 2 (nI (asF F a st))) 0 13 (nI 0)) 27 1 = nI (asT T a st) := by rw [ai_n (by omega), ai_n (by omega), ai_y]
        have e2 : ah_i (ap_i (ap_i (ap_i h 27 1 (nI (asT T a st))) 27 2 (nI (asF F a st))) 0 13 (nI 0)) 27 2 = nI (asF F a st) := by rw [ai_n (by omega), ai_y]
        have e3 : ah_i (ap_i (ap_i (ap_i h 27 1 (nI (asT T a st))) 27 2 (nI (asF F a st))) 0 13 (nI 0)) 0 13 = nI 0 := ai_y
        generalize ap_i (ap_i (ap_i h 27 1 (nI (asT T a st))) 27 2 (nI (asF F a st))) 0 13 (nI 0) = hm at *
        have fv := f3.v fun _ _ => False
        have r3 : r = 3 ∨ 70 ≤ r := c.2.2.1.2.1
        have nn : ∀ b k, (b ≠ 27 ∧ (b ≠ 0 ∨ k ≠ 13)) → ¬ (b = 27 ∧ (k = 1 ∨ k = 2) ∨ b = 0 ∧ k = 13) := fun b k z y => by omega
        refine ⟨rfl, ⟨r, ?_⟩, by rw [f3.1]; omega, by rw [f3.2.1]; omega⟩
        obtain ⟨⟨c1, n70⟩, c2, ⟨d, c4, c5⟩, c6, c7, c8, c9⟩ := c
        have s0 := ss_0 c1
        have s27 := ss_27 c1
        refine ⟨⟨c1.fr f3, by rw [f3.1]; exact n70⟩, c2.fv fv (nn _ _ (by omega)) (fun k => nn _ _ (by omega)), ⟨d.fv fv (fun _ _ z => z.elim) (fun j k hj => nn _ _ (by omega)) c4, c4, by rw [f3.1]; exact c5⟩, c6.fv fv (fun _ _ z => z.elim) (nn _ _ (by omega)) (fun q hq _ j k hj => by
          have q3 : q = 3 ∨ 70 ≤ q := hq
          exact nn _ _ (by omega)), c7.fv fv (fun b k h1 h2 => nn b k (by omega)), ⟨⟨?_, ?_, ?_, Or.inl e3⟩, fun i hi => by rw [f3.k.2.2, f3.k.2.2]; exact c8.2 i hi⟩, c9.fv fv fun b k h1 h2 => nn b k (by omega)⟩
        · refine c8.1.1.fr f3 (fun b k z => ?_) (fun k => nn _ _ (by omega)) (fun k => nn _ _ (by omega)) (fun k => nn _ _ (by omega)) (fun k => nn _ _ (by omega)) (fun k => nn _ _ (by omega)) (fun k => nn _ _ (by omega)) (fun k => nn _ _ (by omega)) (fun k => nn _ _ (by omega))
          have : b = 27 ∨ b = 0 := by omega
          rcases this with rfl | rfl
          · rw [s27]; decide
          · rw [s0.1]; decide
        · obtain ⟨x1, x2, x3, x4, x5, x6⟩ := c8.1.2.1
          exact ⟨(f3.ci (fun z => by omega)).trans x1, e1, e2, x4, asT_lt x5 ha, asF_lt x6 ha⟩
        · rw [f3.ci (nn _ _ (by omega))]; exact c8.1.2.2.1
    · exact oq_ref (E := 0) p (by decide) fun sc h r c Q => d_14s c.2.2.2.2.2.1.1 ha h2
  · exact oq_ref (E := 2) p (by decide) fun sc h r c Q => d_14a c.2.2.2.2.2.1.1 h1 p1
/-- prefer -/
theorem oq_15 (p : PIV np R m Ro A I X T F) (p0 p1 : Int32) : OPI [0, 1, 2] 15 [.int p0, .int p1] (np, pl, R, m, Ro, A, I, X, T, F, pc, pa, pb) := by
  have n12 : A.length ≤ 12 := p.ok.1
  by_cases h1 : vp_in p0 A.length
  · obtain ⟨a, ha, rfl⟩ := vp_in_of h1 (by omega)
    by_cases h2 : vp_in p1 A.length
    · obtain ⟨b, hb, rfl⟩ := vp_in_of h2 (by omega)
      by_cases e : a = b
      · subst e
        exact oq_ref (E := 0) p (by decide) fun sc h r c Q => d_15e c.2.2.2.2.2.1.1 ha
      · by_cases e6 : 6 ≤ pc
        · by_cases e7 : pc = 6
          · subst e7
            exact oq_ref (E := 1) p (by decide) fun sc h r c Q => d_15f c.2.2.2.2.2.1.1 c.2.2.2.2.2.2 ha hb e
          · refine oq_ref (E := 1) p (by decide) fun sc h r c Q => ?_
            have := c.2.2.2.2.2.2.2.1
            omega
        · have p6 : pc < 6 := by omega
          refine ⟨.inl (some (.int (nI (pc + 1)))), (np, pl, R, m, Ro, A, I, X, T, F, pc + 1, (fun j => if j = pc then a else pa j), (fun j => if j = pc then b else pb j)), ?_, p, Or.inl ⟨pc + 1, by omega, rfl⟩⟩
          rintro sc h ⟨r, c⟩
          have pf := c.2.2.2.2.2.2
          have f3 : FR h (ap_i (ap_i (ap_i h 29 pc (nI a)) 30 pc (nI b)) 28 2 (nI (pc + 1))) (fun a k => 28 ≤ a ∧ a ≤ 30) := (((FR.refl _ _).i (by omega)).i (by omega)).i (by omega)
          refine (d_15 c.2.2.2.2.2.1.1 pf p6 ha hb e).mpr ?_
          have g1 : ∀ j, j < pc + 1 → ah_i (ap_i (ap_i (ap_i h 29 pc (nI a)) 30 pc (nI b)) 28 2 (nI (pc + 1))) 29 j = nI (if j = pc then a else pa j) ∧ ah_i (ap_i (ap_i (ap_i h 29 pc (nI a)) 30 pc (nI b)) 28 2 (nI (pc + 1))) 30 j = nI (if j = pc then b else pb j) := fun j hj => by
            by_cases w : j = pc
            · rw [if_pos w, if_pos w, w, ai_n (by omega), ai_n (by omega), ai_y, ai_n (by omega), ai_y]; exact ⟨rfl, rfl⟩
            · rw [if_neg w, if_neg w, ai_n (by omega), ai_n (by omega), ai_n (by omega), ai_n (by omega), ai_n (by omega), ai_n (by omega)]
              have := pf.2.2 j (by omega)
              exact ⟨this.1, this.2.1⟩
          have g2 : ah_i (ap_i (ap_i (ap_i h 29 pc (nI a)) 30 pc (nI b)) 28 2 (nI (pc + 1))) 28 2 = nI (pc + 1) := ai_y
          have bd : ∀ j, j < pc + 1 → (if j = pc then a else pa j) < 12 ∧ (if j = pc then b else pb j) < 12 := fun j hj => by
            by_cases w : j = pc
            · rw [if_pos w, if_pos w]; omega
            · rw [if_neg w, if_neg w]
              have := pf.2.2 j (by omega)
              exact this.2.2
          generalize ap_i (ap_i (ap_i h 29 pc (nI a)) 30 pc (nI b)) 28 2 (nI (pc + 1)) = hm at *
          have fv := f3.v fun _ _ => False
          have r3 : r = 3 ∨ 70 ≤ r := c.2.2.1.2.1
          refine ⟨rfl, ⟨r, ?_⟩, by rw [f3.1]; omega, by rw [f3.2.1]; omega⟩
          obtain ⟨⟨c1, n70⟩, c2, ⟨d, c4, c5⟩, c6, c7, c8, c9⟩ := c
          have q : ∀ q, rpl q → q + 15 < r → ∀ (j k : Nat), j < 16 → ¬ (28 ≤ q + j ∧ q + j ≤ 30) := fun q hq _ j k hj => by
            have q3 : q = 3 ∨ 70 ≤ q := hq
            omega
          exact ⟨⟨c1.fr f3, by rw [f3.1]; exact n70⟩, c2.fv fv (by omega) (fun k => by omega), ⟨d.fv fv (fun _ _ z => z.elim) (fun j k hj => by omega) c4, c4, by rw [f3.1]; exact c5⟩, c6.fv fv (fun _ _ z => z.elim) (by omega) q, c7.fv fv (fun b k h1 h2 => by omega),
            c8.fv c6 (CIV.irs p) fv (fun _ _ z => z.elim) (fun k _ => by omega) (fun k => by omega) (by omega) (fun b k h1 h2 => by omega) (fun k => by omega) (fun k => by omega) q, g2, by omega, fun j hj => ⟨(g1 j hj).1, (g1 j hj).2, (bd j hj).1, (bd j hj).2⟩⟩
    · exact oq_ref (E := 2) p (by decide) fun sc h r c Q => d_15b c.2.2.2.2.2.1.1 ha h2
  · exact oq_ref (E := 2) p (by decide) fun sc h r c Q => d_15a c.2.2.2.2.2.1.1 h1 p1
/-- predicate, where there is room -/
theorem oq_1 (p : PIV np R m Ro A I X T F) (n6 : np < 6) {p' : Nat} (hp1 : p' < 3) : OPS 1 [.int (nI p')] (np, pl, R, m, Ro, A, I, X, T, F, pc, pa, pb) (.inl (some (.int (nI np)))) (np + 1, (fun j => if j = np then p' else pl j), R, m, Ro, A, I, X, T, F, pc, pa, pb) ∧ PIV (np + 1) R m Ro A I X T F := by
  refine ⟨?_, ⟨R_ok_mono p.1 (by omega), by omega, p.2.2⟩⟩
  rintro sc h ⟨r, c⟩
  have f3 : FR h (ap_i (ap_i h 1 np (nI p')) 0 1 (nI (np + 1))) (fun a k => a = 1 ∨ a = 0 ∧ k = 1) := ((FR.refl _ _).i (Or.inl rfl)).i (Or.inr ⟨rfl, rfl⟩)
  refine (d_1 c.1.1 c.2.1 (by omega) hp1).mpr ?_
  have q1 : ∀ j, j < np + 1 → ah_i (ap_i (ap_i h 1 np (nI p')) 0 1 (nI (np + 1))) 1 j = nI (if j = np then p' else pl j) ∧ (if j = np then p' else pl j) ≤ 2 := fun j hj => by
    rw [ai_n (by omega)]
    by_cases w : j = np
    · rw [if_pos w, w, ai_y]; exact ⟨rfl, by omega⟩
    · rw [if_neg w, ai_n (by omega)]; exact c.2.1.2.2 j (by omega)
  have q2 : ah_i (ap_i (ap_i h 1 np (nI p')) 0 1 (nI (np + 1))) 0 1 = nI (np + 1) := ai_y
  generalize ap_i (ap_i h 1 np (nI p')) 0 1 (nI (np + 1)) = hm at *
  have fv := f3.v fun _ _ => False
  have r3 : r = 3 ∨ 70 ≤ r := c.2.2.1.2.1
  have nn : ∀ a k, (a ≠ 1 ∧ (a ≠ 0 ∨ k ≠ 1)) → ¬ (a = 1 ∨ a = 0 ∧ k = 1) := fun a k z y => by omega
  refine ⟨rfl, ⟨r, ?_⟩, by rw [f3.1]; omega, by rw [f3.2.1]; omega⟩
  obtain ⟨⟨c1, n70⟩, c2, ⟨d, c4, c5⟩, c6, c7, c8, c9⟩ := c
  refine ⟨⟨c1.fr f3, by rw [f3.1]; exact n70⟩, ⟨q2, by omega, q1⟩, ⟨d.fv fv (fun _ _ z => z.elim) (fun j k hj => nn _ _ (by omega)) c4, c4, by rw [f3.1]; exact c5⟩, c6.fv fv (fun _ _ z => z.elim) (nn _ _ (by omega)) (fun q hq _ j k hj => by
    have q3 : q = 3 ∨ 70 ≤ q := hq
    exact nn _ _ (by omega)), c7.fv fv (fun a k h1 h2 => nn a k (by omega)), ?_, c9.fv fv fun a k h1 h2 => nn a k (by omega)⟩
  exact c8.fv c6 (CIV.irs p) fv (fun _ _ z => z.elim) (fun k _ => nn _ _ (by omega)) (fun k => nn _ _ (by omega)) (nn _ _ (by omega)) (fun a k h1 h2 => nn a k (by omega)) (fun k => nn _ _ (by omega)) (fun k => nn _ _ (by omega)) (fun q hq _ j k hj => by
    have q3 : q = 3 ∨ 70 ≤ q := hq
    exact nn _ _ (by omega))
end OBJ
