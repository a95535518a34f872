/-! GROUNDING OF THE CLASS: AN INSTANCE MORE -/
def GC (h : AH) (g : Nat) (S : gS) : Prop := GAt h g S.1.length (lat S.1) ∧ GIn h g S.2.1.length (lat S.2.1) ∧ ah_i h g 5 = bI (!S.2.2)
def SG (g : Nat) : Nat → Nat → Prop := fun a _ => g ≤ a ∧ a ≤ g + 3
theorem GSh.fr {h h' : AH} {g : Nat} {W : Nat → Nat → Prop} (s : GSh h g) (f : FR h h' W) : GSh h' g := by
  unfold GSh at *
  simp only [f.k.1, f.k.2.1, f.k.2.2]
  exact s
theorem RCo.fr {h h' : AH} {r : Nat} {R : RW} {W : Nat → Nat → Prop} (c : RCo h r R) (f : FR h h' W) (w : ∀ j k, j < 16 → ¬ W (r + j) k) : RCo h' r R := by
  have e : ∀ j k, j < 16 → ah_i h' (r + j) k = ah_i h (r + j) k := fun j k hj => f.ci (w j k hj)
  have e0 := e 0
  simp only [Nat.add_zero] at e0
  unfold RCo at *
  obtain ⟨c1, c2, c3, c4, c5, c6, c7, c8, c9, c10⟩ := c
  refine ⟨by rw [e 1 _ (by omega)]; exact c1, ?_, ?_, ?_, ?_, by rw [e 10 _ (by omega)]; exact c6, ?_, ?_, by rw [e0 _ (by omega)]; exact c9, ?_⟩
  · rw [e 1 _ (by omega), e 1 _ (by omega)]; exact c2
  · rw [e 1 _ (by omega), e 1 _ (by omega)]; exact c3
  · rw [e 1 _ (by omega), e 1 _ (by omega), e 1 _ (by omega)]; exact c4
  · intro l hl
    have el : eO l + 1 < 16 := by
      have : l = 0 ∨ l = 1 ∨ l = 2 ∨ l = 3 ∨ l = 4 := by omega
      rcases this with rfl | rfl | rfl | rfl | rfl <;> decide
    rw [e (eO l) _ (by omega), e (eO l) _ (by omega)]
    refine ⟨(c5 l hl).1, (c5 l hl).2.1, fun k hk => ?_⟩
    rw [Nat.add_assoc, e (eO l + 1) _ el]
    exact (c5 l hl).2.2 k hk
  · rw [e 10 _ (by omega), e 10 _ (by omega)]; exact c7
  · intro k hk
    rw [e 13 _ (by omega)]; exact c8 k hk
  · intro v hv q
    rw [e 14 _ (by omega), e 15 _ (by omega)]; exact c10 v hv q
theorem LKD.fr {h h' : AH} {r : Nat} {R : RW} {W : Nat → Nat → Prop} (c : LKD h r R) (f : FR h h' W) (w : ∀ k, ¬ W r k) : LKD h' r R := by
  unfold LKD at *
  rw [f.ci (w _), f.ci (w _)]
  exact c
/-- a rule of the class, as it is grounded -/
def RU (h : AH) (r : Nat) (R : RW) : Prop := RSh h r ∧ RCo h r R ∧ LKD h r R ∧ R_ok 6 R
theorem RU.fr {h h' : AH} {r : Nat} {R : RW} {W : Nat → Nat → Prop} (c : RU h r R) (f : FR h h' W) (w : ∀ j k, j < 16 → ¬ W (r + j) k) : RU h' r R := ⟨c.1.fr f, c.2.1.fr f w, c.2.2.1.fr f (fun k => w 0 k (by omega)), c.2.2.2⟩
def apt (g r : Nat) : Prop := g + 3 < r ∨ r + 15 < g
theorem apt.w {g r : Nat} (a : apt g r) : ∀ j k, j < 16 → ¬ SG g (r + j) k := fun j k hj q => by
  unfold apt at a
  have := q.1
  have := q.2
  omega
theorem CA.i {h : AH} {a : Nat} {c : Nat → Nat} (ca : CA h a c) {b k : Nat} {v : Int32} (n : b ≠ a) : CA (ap_i h b k v) a c := ⟨ca.1, ca.2.1, fun u hu => by rw [ai_n (by omega)]; exact ca.2.2 u hu⟩
theorem GC_add {h : AH} {g x : Nat} {A I : List Nat} {b : Bool} (c : GC h g (A, I, b)) (hx : x < 2000) (l : A.length < 12) : GC (ap_i (ap_i h (g + 1) A.length (nI x)) g 1 (nI (A.length + 1))) g (A ++ [x], I, b) := by
  obtain ⟨⟨a1, a2, a3⟩, ⟨i1, i2, i3⟩, o⟩ := c
  refine ⟨⟨?_, ?_, fun a ha => ?_⟩, ⟨?_, i2, fun i hi => ?_⟩, ?_⟩
  · show ah_i _ g 1 = nI (A ++ [x]).length
    rw [ai_y, List.length_append, List.length_singleton]
  · show (A ++ [x]).length ≤ 12
    rw [List.length_append, List.length_singleton]; omega
  · have ha : a < (A ++ [x]).length := ha
    rw [List.length_append, List.length_singleton] at ha
    rw [ai_n (by omega)]
    show ah_i _ (g + 1) a = nI (lat (A ++ [x]) a) ∧ lat (A ++ [x]) a < 2000
    by_cases e : a = A.length
    · subst e; rw [ai_y, lat_new]; exact ⟨rfl, hx⟩
    · rw [ai_n (by omega), lat_app (by omega)]; exact a3 a (by show a < A.length; omega)
  · rw [ai_n (by omega), ai_n (by omega)]; exact i1
  · rw [ai_n (by omega), ai_n (by omega)]; exact i3 i hi
  · rw [ai_n (by omega), ai_n (by omega)]; exact o
theorem GC_ins {h : AH} {g t : Nat} {A I : List Nat} {b : Bool} (c : GC h g (A, I, b)) (ht : t < 1000000) (l : I.length < 60) : GC (ap_i (ap_i h (g + 2) I.length (nI t)) g 3 (nI (I.length + 1))) g (A, I ++ [t], b) := by
  obtain ⟨⟨a1, a2, a3⟩, ⟨i1, i2, i3⟩, o⟩ := c
  refine ⟨⟨?_, a2, fun a ha => ?_⟩, ⟨?_, ?_, fun i hi => ?_⟩, ?_⟩
  · rw [ai_n (by omega), ai_n (by omega)]; exact a1
  · rw [ai_n (by omega), ai_n (by omega)]; exact a3 a ha
  · show ah_i _ g 3 = nI (I ++ [t]).length
    rw [ai_y, List.length_append, List.length_singleton]
  · show (I ++ [t]).length ≤ 60
    rw [List.length_append, List.length_singleton]; omega
  · have hi : i < (I ++ [t]).length := hi
    rw [List.length_append, List.length_singleton] at hi
    rw [ai_n (by omega)]
    show ah_i _ (g + 2) i = nI (lat (I ++ [t]) i) ∧ lat (I ++ [t]) i < 1000000
    by_cases e : i = I.length
    · subst e; rw [ai_y, lat_new]; exact ⟨rfl, ht⟩
    · rw [ai_n (by omega), lat_app (by omega)]; exact i3 i (by show i < I.length; omega)
  · rw [ai_n (by omega), ai_n (by omega)]; exact o
theorem GC_ov {h : AH} {g : Nat} {A I : List Nat} {b : Bool} (c : GC h g (A, I, b)) : GC (ap_i h g 5 (nI 1)) g (A, I, false) := by
  obtain ⟨⟨a1, a2, a3⟩, ⟨i1, i2, i3⟩, o⟩ := c
  refine ⟨⟨?_, a2, fun a ha => ?_⟩, ⟨?_, i2, fun i hi => ?_⟩, ?_⟩
  · rw [ai_n (by omega)]; exact a1
  · rw [ai_n (by omega)]; exact a3 a ha
  · rw [ai_n (by omega)]; exact i1
  · rw [ai_n (by omega)]; exact i3 i hi
  · rw [ai_y]; rfl
/-- an instance is added unless it is known -/
def gin (R : RW) (n : Nat) (c : Nat → Nat) (S : gS) : gS := if tl4 n c ∈ S.2.1 then S else if 60 ≤ S.2.1.length then (S.1, S.2.1, false) else ((gad (hdc R c) (R_n R 0) 0 S.1).1, S.2.1 ++ [tl4 n c], (gad (hdc R c) (R_n R 0) 0 S.1).2)
section CLS
variable {sc : (Nat → Int32) × Nat} {d : Nat} {h : AH} {Q : Rs → AH → Prop} {g n r : Nat} {R : RW} {c : Nat → Nat} {S : gS}
theorem c_193 (s : GSh h g) (ru : RU h r R) (ap : apt g r) (gc : GC h g S) (ca : CA h (g + 3) c) (ok : S.2.2 = true) (hn : n < 20) : TC sc (d + 5) 193 [.ref g, .ref r, .int (nI n)] h fun q h' => q = .inl none ∧ FR h h' (SG g) ∧ GC h' g (gin R n c S) ∧ CA h' (g + 3) c := by
  generalize hQ : (fun (q : Rs) (h' : AH) => q = .inl none ∧ FR h h' (SG g) ∧ GC h' g (gin R n c S) ∧ CA h' (g + 3) c) = Q
  obtain ⟨A, I, b⟩ := S
  cases ok
  have c0 := (ca.2.2 0 (by omega))
  have c1 := (ca.2.2 1 (by omega))
  have c2 := (ca.2.2 2 (by omega))
  have c3 := (ca.2.2 3 (by omega))
  have tl : (((n * 10 + c 0) * 10 + c 1) * 10 + c 2) * 10 + c 3 = tl4 n c := by unfold tl4 tld; omega
  have tb : tl4 n c < 1000000 := by unfold tl4 tld; omega
  have hnd : R_n R 0 ≤ 3 := ru.2.2.2.2.1 0 (by omega)
  have fin : ∀ h1, FR h h1 (SG g) → GC h1 g (gin R n c (A, I, true)) → CA h1 (g + 3) c → Q (.inl none) h1 := fun h1 f1 g1 a1 => by rw [← hQ]; exact ⟨rfl, f1, g1, a1⟩
  have lp : tl4 n c ∉ I → I.length < 60 → ∀ k, k ≤ R_n R 0 → ∀ h1 A' b', FR h h1 (SG g) → GC h1 g (A', I ++ [tl4 n c], b') → CA h1 (g + 3) c → (b' = true ∧ gad (hdc R c) (R_n R 0 - k) k A' = gad (hdc R c) (R_n R 0) 0 A ∨ b' = false ∧ 12 ≤ A'.length ∧ (A', false) = gad (hdc R c) (R_n R 0) 0 A) → TT sc (d + 4) 193 Q 45 [.ref g, .ref r, .int (nI n), .int (nI (tl4 n c)), .int (nI k)] [] h1 := by
    intro nk l60
    refine up_to fun k hk ih => ?_
    intro h1 A' b' f1 g1 a1 H
    have s1 := s.fr f1
    obtain ⟨rs1, rc1, rl1, ro⟩ := ru.fr f1 ap.w
    have ss1 := rs1.s
    have rss := rs1
    obtain ⟨_, w1, _, _, _, _, _, _, _, w2, _, _, _, _, _, _, _, _, _, es⟩ := rss
    obtain ⟨e1, e2, e3⟩ := rc1.2.2.2.2.1 0 (by omega)
    have e2' : ah_i h1 (r + 2) 2 = nI (R_n R 0) := e2
    have e0k : ah_k h1 (r + 2) = 1 := (es 0 (by omega)).1
    by_cases e : k < R_n R 0
    · have em : R_n R 0 - k = (R_n R 0 - (k + 1)) + 1 := by omega
      obtain ⟨va, vb, vp⟩ := (ro.lok (by omega) 0 (by omega)).2 k e
      have cc := e3 k e
      rw [show ecd R 0 k = cd3 (R_p R 0 k) (R_a R 0 k) (R_b R 0 k) from rfl] at cc
      have p6 := ro.p (l := 0) (by omega) (by omega) e
      have t1 := tv_le (z := 0) va (fun v hv => (a1.2.2 v hv).2) (show 0 ≤ 9 by omega)
      have t2 := tv_le (z := 0) vb (fun v hv => (a1.2.2 v hv).2) (show 0 ≤ 9 by omega)
      have gl : R_p R 0 k * 100 + tv (R_a R 0 k) 0 c * 10 + tv (R_b R 0 k) 0 c < 2000 := by omega
      have k158 := fun Q => c_158 (sc := sc) (d := d + 3) (Q := Q) (e := r + 2) (es 0 (by omega)) e2' (Nat.le_trans hnd (by omega)) e cc
      have k160 := fun Q => c_160 (sc := sc) (d := d + 1) (Q := Q) (z := 0) a1 vp va vb
      by_cases m : hdc R c k ∈ A'
      · have i1 := idx_i m
        have n1 : nof (lat A') (R_p R 0 k * 100 + tv (R_a R 0 k) 0 c * 10 + tv (R_b R 0 k) 0 c) 0 A'.length ≠ 0 := fun z => by
          have : idx A' (hdc R c k) = 0 := z
          omega
        have n2 : nof (lat A') (R_p R 0 k * 100 + tv (R_a R 0 k) 0 c * 10 + tv (R_b R 0 k) 0 c) 0 A'.length ≤ 12 := Nat.le_trans (idx_le A' (hdc R c k)) g1.1.2.1
        have k189 := fun Q => c_189t (sc := sc) (d := d + 1) (Q := Q) s1 g1.1 gl n1 n2
        refine wx_sound (S := [45]) 60 true _ _ _ _ ?_
        simp +contextual (disch := omega) only [K193, wx_t, wx_g, wJ_t, wJ_f, wI_s, CI, CL, C01, aftC_v, aftC_n, true_or, or_true, true_and, and_true, inS_n, inS_c, pI_c, pL_c, pA_c, pV_c, pE_c, pQ_s, pQ_n, pQ_r, cm_eq', cm_ne', cm_lt', cm_ge', cm_gt', cm_le', List.getD_cons_zero, List.getD_cons_succ, Nat.reduceAdd, Nat.reduceBEq, Bool.false_or, Bool.or_false, Bool.true_or, Int.reduceToNat, s_iload, s_lload, s_aload, s_istore, s_astore, s_lstore, s_iconst, s_sipush, s_aconst_null, s_iadd, s_isub, s_imul, s_iand, s_ior, s_ixor, s_idiv, s_irem, s_ishl, s_ishr, s_iushr, s_ladd, s_lsub, s_land, s_lor, s_lxor, s_lneg, s_lshl, s_lshr, s_lushr, s_i2l, s_l2i, s_lcmp, s_dup, s_pop, s_dup2, s_i2c, s_i2s, s_monitorenter, s_ifCond, s_if_icmp, s_ifnull, s_goto, s_iinc, s_tableswitch, s_ireturn, s_freturn, s_lreturn, s_areturn, s_return_, s_ldc, s_getfield, s_putfield, s_iaload, s_iastore, s_laload, s_lastore, s_baload, s_bastore, s_aaload, s_aastore, s_arraylength, s_newarray, s_anewarray, s_new, s_invokestatic, s_invokespecial, s_invokevirtual, fvl_0, fvl_1, fvl_2, fvl_3, fp_0, fp_1, fp_2, fp_3, rf_s, rf_n, isRf_b, knw_b, isLg_b, popA_0, popA_s, st1_0, st1_s, st2_e, set_0, set_s, aftC_e, hxP_s, hxP_n, iteF, iteT, bft, im_t, im_f, nt_f, nt_t, Nat.reduceDiv, Nat.reduceMod, Nat.reduceLeDiff, Nat.reduceLT, Nat.reduceEqDiff, List.length_cons, List.length_nil, Nat.zero_add, Nat.reduceSub, List.cons_append, List.nil_append, ak_i, az_i, ar_i, al_i, ai_i, ak_l, az_l, ar_l, al_l, ai_l, ak_r, az_r, ar_r, al_r, ai_r, pk_m1, reduceCtorEq, msk_tb, mskL, Bool.and_eq_true, decide_eq_true_eq, lg_0, lg_t, lg_g, lg_e, lg_l, tb_z, Nat.mod_eq_of_lt, lN_1s, and_ze, brT, brF, brN, vpT, a4095, a63, nI_e, nI_l', nI_t', dif_z, and_z, and_zr, lN_e, nI_clamp, nx_shr, Nat.reducePow, bI_0, bI_1, bI_z, bI_o, bI_or, n01, nI_add, pk_mul, nx_and, nx_or, nx_dif, lx_and, lx_or, lx_dif, Bool.not_eq_true, Bool.not_eq_false, Bool.true_eq_false, Bool.false_eq_true, s1.1, s1.2.2.2.1, w1, w2, ss1, e2', e0k, k158, k160, k189]
        refine ih e h1 A' b' f1 g1 a1 ?_
        rcases H with ⟨q1, q2⟩ | q
        · rw [em, gad_s, if_pos m] at q2; exact Or.inl ⟨q1, q2⟩
        · exact Or.inr q
      · have n1 : nof (lat A') (R_p R 0 k * 100 + tv (R_a R 0 k) 0 c * 10 + tv (R_b R 0 k) 0 c) 0 A'.length = 0 := idx_z.mpr m
        by_cases l12 : A'.length < 12
        · have k189 := fun Q => c_189 (sc := sc) (d := d + 1) (Q := Q) s1 g1.1 gl n1 l12
          refine wx_sound (S := [45]) 60 true _ _ _ _ ?_
          simp +contextual (disch := omega) only [K193, wx_t, wx_g, wJ_t, wJ_f, wI_s, CI, CL, C01, aftC_v, aftC_n, true_or, or_true, true_and, and_true, inS_n, inS_c, pI_c, pL_c, pA_c, pV_c, pE_c, pQ_s, pQ_n, pQ_r, cm_eq', cm_ne', cm_lt', cm_ge', cm_gt', cm_le', List.getD_cons_zero, List.getD_cons_succ, Nat.reduceAdd, Nat.reduceBEq, Bool.false_or, Bool.or_false, Bool.true_or, Int.reduceToNat, s_iload, s_lload, s_aload, s_istore, s_astore, s_lstore, s_iconst, s_sipush, s_aconst_null, s_iadd, s_isub, s_imul, s_iand, s_ior, s_ixor, s_idiv, s_irem, s_ishl, s_ishr, s_iushr, s_ladd, s_lsub, s_land, s_lor, s_lxor, s_lneg, s_lshl, s_lshr, s_lushr, s_i2l, s_l2i, s_lcmp, s_dup, s_pop, s_dup2, s_i2c, s_i2s, s_monitorenter, s_ifCond, s_if_icmp, s_ifnull, s_goto, s_iinc, s_tableswitch, s_ireturn, s_freturn, s_lreturn, s_areturn, s_return_, s_ldc, s_getfield, s_putfield, s_iaload, s_iastore, s_laload, s_lastore, s_baload, s_bastore, s_aaload, s_aastore, s_arraylength, s_newarray, s_anewarray, s_new, s_invokestatic, s_invokespecial, s_invokevirtual, fvl_0, fvl_1, fvl_2, fvl_3, fp_0, fp_1, fp_2, fp_3, rf_s, rf_n, isRf_b, knw_b, isLg_b, popA_0, popA_s, st1_0, st1_s, st2_e, set_0, set_s, aftC_e, hxP_s, hxP_n, iteF, iteT, bft, im_t, im_f, nt_f, nt_t, Nat.reduceDiv, Nat.reduceMod, Nat.reduceLeDiff, Nat.reduceLT, Nat.reduceEqDiff, List.length_cons, List.length_nil, Nat.zero_add, Nat.reduceSub, List.cons_append, List.nil_append, ak_i, az_i, ar_i, al_i, ai_i, ak_l, az_l, ar_l, al_l, ai_l, ak_r, az_r, ar_r, al_r, ai_r, pk_m1, reduceCtorEq, msk_tb, mskL, Bool.and_eq_true, decide_eq_true_eq, lg_0, lg_t, lg_g, lg_e, lg_l, tb_z, Nat.mod_eq_of_lt, lN_1s, and_ze, brT, brF, brN, vpT, a4095, a63, nI_e, nI_l', nI_t', dif_z, and_z, and_zr, lN_e, nI_clamp, nx_shr, Nat.reducePow, bI_0, bI_1, bI_z, bI_o, bI_or, n01, nI_add, pk_mul, nx_and, nx_or, nx_dif, lx_and, lx_or, lx_dif, Bool.not_eq_true, Bool.not_eq_false, Bool.true_eq_false, Bool.false_eq_true, s1.1, s1.2.2.2.1, w1, w2, ss1, e2', e0k, k158, k160, k189]
          refine ih e _ (A' ++ [hdc R c k]) b' ((f1.i ⟨by omega, by omega⟩).i ⟨by omega, by omega⟩) (GC_add g1 gl l12) ((a1.i (by omega)).i (by omega)) ?_
          rcases H with ⟨q1, q2⟩ | ⟨q1, q2, _⟩
          · rw [em, gad_s, if_neg m, if_neg (by omega)] at q2; exact Or.inl ⟨q1, q2⟩
          · omega
        · have l12e : A'.length = 12 := Nat.le_antisymm g1.1.2.1 (by omega)
          have k189 := fun Q => c_189f (sc := sc) (d := d + 1) (Q := Q) s1 g1.1 gl n1 l12e
          refine wx_sound (S := [45]) 60 true _ _ _ _ ?_
          simp +contextual (disch := omega) only [K193, wx_t, wx_g, wJ_t, wJ_f, wI_s, CI, CL, C01, aftC_v, aftC_n, true_or, or_true, true_and, and_true, inS_n, inS_c, pI_c, pL_c, pA_c, pV_c, pE_c, pQ_s, pQ_n, pQ_r, cm_eq', cm_ne', cm_lt', cm_ge', cm_gt', cm_le', List.getD_cons_zero, List.getD_cons_succ, Nat.reduceAdd, Nat.reduceBEq, Bool.false_or, Bool.or_false, Bool.true_or, Int.reduceToNat, s_iload, s_lload, s_aload, s_istore, s_astore, s_lstore, s_iconst, s_sipush, s_aconst_null, s_iadd, s_isub, s_imul, s_iand, s_ior, s_ixor, s_idiv, s_irem, s_ishl, s_ishr, s_iushr, s_ladd, s_lsub, s_land, s_lor, s_lxor, s_lneg, s_lshl, s_lshr, s_lushr, s_i2l, s_l2i, s_lcmp, s_dup, s_pop, s_dup2, s_i2c, s_i2s, s_monitorenter, s_ifCond, s_if_icmp, s_ifnull, s_goto, s_iinc, s_tableswitch, s_ireturn, s_freturn, s_lreturn, s_areturn, s_return_, s_ldc, s_getfield, s_putfield, s_iaload, s_iastore, s_laload, s_lastore, s_baload, s_bastore, s_aaload, s_aastore, s_arraylength, s_newarray, s_anewarray, s_new, s_invokestatic, s_invokespecial, s_invokevirtual, fvl_0, fvl_1, fvl_2, fvl_3, fp_0, fp_1, fp_2, fp_3, rf_s, rf_n, isRf_b, knw_b, isLg_b, popA_0, popA_s, st1_0, st1_s, st2_e, set_0, set_s, aftC_e, hxP_s, hxP_n, iteF, iteT, bft, im_t, im_f, nt_f, nt_t, Nat.reduceDiv, Nat.reduceMod, Nat.reduceLeDiff, Nat.reduceLT, Nat.reduceEqDiff, List.length_cons, List.length_nil, Nat.zero_add, Nat.reduceSub, List.cons_append, List.nil_append, ak_i, az_i, ar_i, al_i, ai_i, ak_l, az_l, ar_l, al_l, ai_l, ak_r, az_r, ar_r, al_r, ai_r, pk_m1, reduceCtorEq, msk_tb, mskL, Bool.and_eq_true, decide_eq_true_eq, lg_0, lg_t, lg_g, lg_e, lg_l, tb_z, Nat.mod_eq_of_lt, lN_1s, and_ze, brT, brF, brN, vpT, a4095, a63, nI_e, nI_l', nI_t', dif_z, and_z, and_zr, lN_e, nI_clamp, nx_shr, Nat.reducePow, bI_0, bI_1, bI_z, bI_o, bI_or, n01, nI_add, pk_mul, nx_and, nx_or, nx_dif, lx_and, lx_or, lx_dif, Bool.not_eq_true, Bool.not_eq_false, Bool.true_eq_false, Bool.false_eq_true, s1.1, s1.2.2.2.1, w1, w2, ss1, e2', e0k, k158, k160, k189]
          refine ih e _ A' false (f1.i ⟨by omega, by omega⟩) (GC_ov g1) (a1.i (by omega)) (Or.inr ⟨rfl, by omega, ?_⟩)
          rcases H with ⟨q1, q2⟩ | ⟨q1, q2, q3⟩
          · rw [em, gad_s, if_neg m, if_pos (by omega)] at q2; exact q2
          · exact q3
    · have : k = R_n R 0 := by omega
      subst this
      refine wx_sound (S := [45]) 60 true _ _ _ _ ?_
      simp +contextual (disch := omega) only [K193, wx_t, wx_g, wJ_t, wJ_f, wI_s, CI, CL, C01, aftC_v, aftC_n, true_or, or_true, true_and, and_true, inS_n, inS_c, pI_c, pL_c, pA_c, pV_c, pE_c, pQ_s, pQ_n, pQ_r, cm_eq', cm_ne', cm_lt', cm_ge', cm_gt', cm_le', List.getD_cons_zero, List.getD_cons_succ, Nat.reduceAdd, Nat.reduceBEq, Bool.false_or, Bool.or_false, Bool.true_or, Int.reduceToNat, s_iload, s_lload, s_aload, s_istore, s_astore, s_lstore, s_iconst, s_sipush, s_aconst_null, s_iadd, s_isub, s_imul, s_iand, s_ior, s_ixor, s_idiv, s_irem, s_ishl, s_ishr, s_iushr, s_ladd, s_lsub, s_land, s_lor, s_lxor, s_lneg, s_lshl, s_lshr, s_lushr, s_i2l, s_l2i, s_lcmp, s_dup, s_pop, s_dup2, s_i2c, s_i2s, s_monitorenter, s_ifCond, s_if_icmp, s_ifnull, s_goto, s_iinc, s_tableswitch, s_ireturn, s_freturn, s_lreturn, s_areturn, s_return_, s_ldc, s_getfield, s_putfield, s_iaload, s_iastore, s_laload, s_lastore, s_baload, s_bastore, s_aaload, s_aastore, s_arraylength, s_newarray, s_anewarray, s_new, s_invokestatic, s_invokespecial, s_invokevirtual, fvl_0, fvl_1, fvl_2, fvl_3, fp_0, fp_1, fp_2, fp_3, rf_s, rf_n, isRf_b, knw_b, isLg_b, popA_0, popA_s, st1_0, st1_s, st2_e, set_0, set_s, aftC_e, hxP_s, hxP_n, iteF, iteT, bft, im_t, im_f, nt_f, nt_t, Nat.reduceDiv, Nat.reduceMod, Nat.reduceLeDiff, Nat.reduceLT, Nat.reduceEqDiff, List.length_cons, List.length_nil, Nat.zero_add, Nat.reduceSub, List.cons_append, List.nil_append, ak_i, az_i, ar_i, al_i, ai_i, ak_l, az_l, ar_l, al_l, ai_l, ak_r, az_r, ar_r, al_r, ai_r, pk_m1, reduceCtorEq, msk_tb, mskL, Bool.and_eq_true, decide_eq_true_eq, lg_0, lg_t, lg_g, lg_e, lg_l, tb_z, Nat.mod_eq_of_lt, lN_1s, and_ze, brT, brF, brN, vpT, a4095, a63, nI_e, nI_l', nI_t', dif_z, and_z, and_zr, lN_e, nI_clamp, nx_shr, Nat.reducePow, bI_0, bI_1, bI_z, bI_o, bI_or, n01, nI_add, pk_mul, nx_and, nx_or, nx_dif, lx_and, lx_or, lx_dif, Bool.not_eq_true, Bool.not_eq_false, Bool.true_eq_false, Bool.false_eq_true, s1.1, w1, w2, ss1, e2', e0k]
      refine fin h1 f1 ?_ a1
      unfold gin
      rw [if_neg nk, if_neg (show ¬ 60 ≤ I.length by omega)]
      rcases H with ⟨q1, q2⟩ | ⟨q1, q2, q3⟩
      · rw [Nat.sub_self] at q2
        have q2 : (A', true) = _ := q2
        rw [← q2]; rw [q1] at g1; exact g1
      · rw [← q3]; rw [q1] at g1; exact g1
  have l5 : ∀ q, TT sc (d + 4) 193 Q 18 [.ref g, .ref r, .int (nI n), .int (nI (tl4 n c)), q] [] h := by
    intro q
    have k194 := fun Q => c_194 (sc := sc) (d := d + 2) (Q := Q) s gc.2.1 tb
    have i1 := gc.2.1.1
    have i2 := gc.2.1.2.1
    have i1' : ah_i h g 3 = nI I.length := i1
    by_cases m : tl4 n c ∈ I
    · have e : bP (∃ i, i < I.length ∧ lat I i = tl4 n c) = true := bP_of (mem_lat m)
      simp only [e] at k194
      refine wx_sound (S := [45]) 60 true _ _ _ _ ?_
      simp +contextual (disch := omega) only [K193, wx_t, wx_g, wJ_t, wJ_f, wI_s, CI, CL, C01, aftC_v, aftC_n, true_or, or_true, true_and, and_true, inS_n, inS_c, pI_c, pL_c, pA_c, pV_c, pE_c, pQ_s, pQ_n, pQ_r, cm_eq', cm_ne', cm_lt', cm_ge', cm_gt', cm_le', List.getD_cons_zero, List.getD_cons_succ, Nat.reduceAdd, Nat.reduceBEq, Bool.false_or, Bool.or_false, Bool.true_or, Int.reduceToNat, s_iload, s_lload, s_aload, s_istore, s_astore, s_lstore, s_iconst, s_sipush, s_aconst_null, s_iadd, s_isub, s_imul, s_iand, s_ior, s_ixor, s_idiv, s_irem, s_ishl, s_ishr, s_iushr, s_ladd, s_lsub, s_land, s_lor, s_lxor, s_lneg, s_lshl, s_lshr, s_lushr, s_i2l, s_l2i, s_lcmp, s_dup, s_pop, s_dup2, s_i2c, s_i2s, s_monitorenter, s_ifCond, s_if_icmp, s_ifnull, s_goto, s_iinc, s_tableswitch, s_ireturn, s_freturn, s_lreturn, s_areturn, s_return_, s_ldc, s_getfield, s_putfield, s_iaload, s_iastore, s_laload, s_lastore, s_baload, s_bastore, s_aaload, s_aastore, s_arraylength, s_newarray, s_anewarray, s_new, s_invokestatic, s_invokespecial, s_invokevirtual, fvl_0, fvl_1, fvl_2, fvl_3, fp_0, fp_1, fp_2, fp_3, rf_s, rf_n, isRf_b, knw_b, isLg_b, popA_0, popA_s, st1_0, st1_s, st2_e, set_0, set_s, aftC_e, hxP_s, hxP_n, iteF, iteT, bft, im_t, im_f, nt_f, nt_t, Nat.reduceDiv, Nat.reduceMod, Nat.reduceLeDiff, Nat.reduceLT, Nat.reduceEqDiff, List.length_cons, List.length_nil, Nat.zero_add, Nat.reduceSub, List.cons_append, List.nil_append, ak_i, az_i, ar_i, al_i, ai_i, ak_l, az_l, ar_l, al_l, ai_l, ak_r, az_r, ar_r, al_r, ai_r, pk_m1, reduceCtorEq, msk_tb, mskL, Bool.and_eq_true, decide_eq_true_eq, lg_0, lg_t, lg_g, lg_e, lg_l, tb_z, Nat.mod_eq_of_lt, lN_1s, and_ze, brT, brF, brN, vpT, a4095, a63, nI_e, nI_l', nI_t', dif_z, and_z, and_zr, lN_e, nI_clamp, nx_shr, Nat.reducePow, bI_0, bI_1, bI_z, bI_o, bI_or, n01, nI_add, pk_mul, nx_and, nx_or, nx_dif, lx_and, lx_or, lx_dif, Bool.not_eq_true, Bool.not_eq_false, Bool.true_eq_false, Bool.false_eq_true, s.1, k194]
      refine fin h (FR.refl _ _) ?_ ca
      unfold gin
      rw [if_pos m]; exact gc
    · have e : bP (∃ i, i < I.length ∧ lat I i = tl4 n c) = false := bP_no fun ⟨i, h1, h2⟩ => m (h2 ▸ lat_mem h1)
      simp only [e] at k194
      have i2' : I.length ≤ 60 := i2
      by_cases l60 : I.length < 60
      · refine wx_sound (S := [45]) 60 true _ _ _ _ ?_
        simp +contextual (disch := omega) only [K193, wx_t, wx_g, wJ_t, wJ_f, wI_s, CI, CL, C01, aftC_v, aftC_n, true_or, or_true, true_and, and_true, inS_n, inS_c, pI_c, pL_c, pA_c, pV_c, pE_c, pQ_s, pQ_n, pQ_r, cm_eq', cm_ne', cm_lt', cm_ge', cm_gt', cm_le', List.getD_cons_zero, List.getD_cons_succ, Nat.reduceAdd, Nat.reduceBEq, Bool.false_or, Bool.or_false, Bool.true_or, Int.reduceToNat, s_iload, s_lload, s_aload, s_istore, s_astore, s_lstore, s_iconst, s_sipush, s_aconst_null, s_iadd, s_isub, s_imul, s_iand, s_ior, s_ixor, s_idiv, s_irem, s_ishl, s_ishr, s_iushr, s_ladd, s_lsub, s_land, s_lor, s_lxor, s_lneg, s_lshl, s_lshr, s_lushr, s_i2l, s_l2i, s_lcmp, s_dup, s_pop, s_dup2, s_i2c, s_i2s, s_monitorenter, s_ifCond, s_if_icmp, s_ifnull, s_goto, s_iinc, s_tableswitch, s_ireturn, s_freturn, s_lreturn, s_areturn, s_return_, s_ldc, s_getfield, s_putfield, s_iaload, s_iastore, s_laload, s_lastore, s_baload, s_bastore, s_aaload, s_aastore, s_arraylength, s_newarray, s_anewarray, s_new, s_invokestatic, s_invokespecial, s_invokevirtual, fvl_0, fvl_1, fvl_2, fvl_3, fp_0, fp_1, fp_2, fp_3, rf_s, rf_n, isRf_b, knw_b, isLg_b, popA_0, popA_s, st1_0, st1_s, st2_e, set_0, set_s, aftC_e, hxP_s, hxP_n, iteF, iteT, bft, im_t, im_f, nt_f, nt_t, Nat.reduceDiv, Nat.reduceMod, Nat.reduceLeDiff, Nat.reduceLT, Nat.reduceEqDiff, List.length_cons, List.length_nil, Nat.zero_add, Nat.reduceSub, List.cons_append, List.nil_append, ak_i, az_i, ar_i, al_i, ai_i, ak_l, az_l, ar_l, al_l, ai_l, ak_r, az_r, ar_r, al_r, ai_r, pk_m1, reduceCtorEq, msk_tb, mskL, Bool.and_eq_true, decide_eq_true_eq, lg_0, lg_t, lg_g, lg_e, lg_l, tb_z, Nat.mod_eq_of_lt, lN_1s, and_ze, brT, brF, brN, vpT, a4095, a63, nI_e, nI_l', nI_t', dif_z, and_z, and_zr, lN_e, nI_clamp, nx_shr, Nat.reducePow, bI_0, bI_1, bI_z, bI_o, bI_or, n01, nI_add, pk_mul, nx_and, nx_or, nx_dif, lx_and, lx_or, lx_dif, Bool.not_eq_true, Bool.not_eq_false, Bool.true_eq_false, Bool.false_eq_true, s.1, s.2.2.1, s.2.2.2.2.2.2.1, s.2.2.2.2.2.2.2.1, k194, i1', ne_s g, false_and, if_false, show (g = g + 2) = False from eq_false (by omega)]
        exact lp m l60 0 (Nat.zero_le _) _ A true (((FR.refl _ _).i ⟨by omega, by omega⟩).i ⟨by omega, by omega⟩) (GC_ins gc tb l60) ((ca.i (by omega)).i (by omega)) (Or.inl ⟨rfl, rfl⟩)
      · have l6 : I.length = 60 := by omega
        rw [l6] at i1'
        refine wx_sound (S := [45]) 60 true _ _ _ _ ?_
        simp +contextual (disch := omega) only [K193, wx_t, wx_g, wJ_t, wJ_f, wI_s, CI, CL, C01, aftC_v, aftC_n, true_or, or_true, true_and, and_true, inS_n, inS_c, pI_c, pL_c, pA_c, pV_c, pE_c, pQ_s, pQ_n, pQ_r, cm_eq', cm_ne', cm_lt', cm_ge', cm_gt', cm_le', List.getD_cons_zero, List.getD_cons_succ, Nat.reduceAdd, Nat.reduceBEq, Bool.false_or, Bool.or_false, Bool.true_or, Int.reduceToNat, s_iload, s_lload, s_aload, s_istore, s_astore, s_lstore, s_iconst, s_sipush, s_aconst_null, s_iadd, s_isub, s_imul, s_iand, s_ior, s_ixor, s_idiv, s_irem, s_ishl, s_ishr, s_iushr, s_ladd, s_lsub, s_land, s_lor, s_lxor, s_lneg, s_lshl, s_lshr, s_lushr, s_i2l, s_l2i, s_lcmp, s_dup, s_pop, s_dup2, s_i2c, s_i2s, s_monitorenter, s_ifCond, s_if_icmp, s_ifnull, s_goto, s_iinc, s_tableswitch, s_ireturn, s_freturn, s_lreturn, s_areturn, s_return_, s_ldc, s_getfield, s_putfield, s_iaload, s_iastore, s_laload, s_lastore, s_baload, s_bastore, s_aaload, s_aastore, s_arraylength, s_newarray, s_anewarray, s_new, s_invokestatic, s_invokespecial, s_invokevirtual, fvl_0, fvl_1, fvl_2, fvl_3, fp_0, fp_1, fp_2, fp_3, rf_s, rf_n, isRf_b, knw_b, isLg_b, popA_0, popA_s, st1_0, st1_s, st2_e, set_0, set_s, aftC_e, hxP_s, hxP_n, iteF, iteT, bft, im_t, im_f, nt_f, nt_t, Nat.reduceDiv, Nat.reduceMod, Nat.reduceLeDiff, Nat.reduceLT, Nat.reduceEqDiff, List.length_cons, List.length_nil, Nat.zero_add, Nat.reduceSub, List.cons_append, List.nil_append, ak_i, az_i, ar_i, al_i, ai_i, ak_l, az_l, ar_l, al_l, ai_l, ak_r, az_r, ar_r, al_r, ai_r, pk_m1, reduceCtorEq, msk_tb, mskL, Bool.and_eq_true, decide_eq_true_eq, lg_0, lg_t, lg_g, lg_e, lg_l, tb_z, Nat.mod_eq_of_lt, lN_1s, and_ze, brT, brF, brN, vpT, a4095, a63, nI_e, nI_l', nI_t', dif_z, and_z, and_zr, lN_e, nI_clamp, nx_shr, Nat.reducePow, bI_0, bI_1, bI_z, bI_o, bI_or, n01, nI_add, pk_mul, nx_and, nx_or, nx_dif, lx_and, lx_or, lx_dif, Bool.not_eq_true, Bool.not_eq_false, Bool.true_eq_false, Bool.false_eq_true, s.1, k194, i1']
        refine fin _ ((FR.refl _ _).i ⟨by omega, by omega⟩) ?_ (ca.i (by omega))
        unfold gin
        rw [if_neg m, if_pos (show 60 ≤ I.length by omega)]
        exact GC_ov gc
  have st : ∀ k k' t t', k < 4 → k' = k + 1 → t' = t * 10 + c k → t' < 1000000 → TT sc (d + 4) 193 Q 4 [.ref g, .ref r, .int (nI n), .int (nI t'), .int (nI k')] [] h → TT sc (d + 4) 193 Q 4 [.ref g, .ref r, .int (nI n), .int (nI t), .int (nI k)] [] h := by
    intro k k' t t' hk ek e _ K
    subst ek
    have ck := (ca.2.2 k hk).1
    rw [e] at K
    refine wx_sound (S := [4]) 60 true _ _ _ _ ?_
    simp +contextual (disch := omega) only [K193, wx_t, wx_g, wJ_t, wJ_f, wI_s, CI, CL, C01, aftC_v, aftC_n, true_or, or_true, true_and, and_true, inS_n, inS_c, pI_c, pL_c, pA_c, pV_c, pE_c, pQ_s, pQ_n, pQ_r, cm_eq', cm_ne', cm_lt', cm_ge', cm_gt', cm_le', List.getD_cons_zero, List.getD_cons_succ, Nat.reduceAdd, Nat.reduceBEq, Bool.false_or, Bool.or_false, Bool.true_or, Int.reduceToNat, s_iload, s_lload, s_aload, s_istore, s_astore, s_lstore, s_iconst, s_sipush, s_aconst_null, s_iadd, s_isub, s_imul, s_iand, s_ior, s_ixor, s_idiv, s_irem, s_ishl, s_ishr, s_iushr, s_ladd, s_lsub, s_land, s_lor, s_lxor, s_lneg, s_lshl, s_lshr, s_lushr, s_i2l, s_l2i, s_lcmp, s_dup, s_pop, s_dup2, s_i2c, s_i2s, s_monitorenter, s_ifCond, s_if_icmp, s_ifnull, s_goto, s_iinc, s_tableswitch, s_ireturn, s_freturn, s_lreturn, s_areturn, s_return_, s_ldc, s_getfield, s_putfield, s_iaload, s_iastore, s_laload, s_lastore, s_baload, s_bastore, s_aaload, s_aastore, s_arraylength, s_newarray, s_anewarray, s_new, s_invokestatic, s_invokespecial, s_invokevirtual, fvl_0, fvl_1, fvl_2, fvl_3, fp_0, fp_1, fp_2, fp_3, rf_s, rf_n, isRf_b, knw_b, isLg_b, popA_0, popA_s, st1_0, st1_s, st2_e, set_0, set_s, aftC_e, hxP_s, hxP_n, iteF, iteT, bft, im_t, im_f, nt_f, nt_t, Nat.reduceDiv, Nat.reduceMod, Nat.reduceLeDiff, Nat.reduceLT, Nat.reduceEqDiff, List.length_cons, List.length_nil, Nat.zero_add, Nat.reduceSub, List.cons_append, List.nil_append, ak_i, az_i, ar_i, al_i, ai_i, ak_l, az_l, ar_l, al_l, ai_l, ak_r, az_r, ar_r, al_r, ai_r, pk_m1, reduceCtorEq, msk_tb, mskL, Bool.and_eq_true, decide_eq_true_eq, lg_0, lg_t, lg_g, lg_e, lg_l, tb_z, Nat.mod_eq_of_lt, lN_1s, and_ze, brT, brF, brN, vpT, a4095, a63, nI_e, nI_l', nI_t', dif_z, and_z, and_zr, lN_e, nI_clamp, nx_shr, Nat.reducePow, bI_0, bI_1, bI_z, bI_o, bI_or, n01, nI_add, pk_mul, nx_and, nx_or, nx_dif, lx_and, lx_or, lx_dif, Bool.not_eq_true, Bool.not_eq_false, Bool.true_eq_false, Bool.false_eq_true, s.1, s.2.2.2.1, s.2.2.2.2.2.2.2.2.1, s.2.2.2.2.2.2.2.2.2, ck]
    exact K
  refine TC_e (ls := [.ref g, .ref r, .int (nI n), unk, unk]) (Nat.le_of_ble_eq_true rfl) rfl (wx_sound (S := [4]) 60 true _ _ _ _ ?_)
  simp +contextual (disch := omega) only [K193, wx_t, wx_g, wJ_t, wJ_f, wI_s, CI, CL, C01, aftC_v, aftC_n, true_or, or_true, true_and, and_true, inS_n, inS_c, pI_c, pL_c, pA_c, pV_c, pE_c, pQ_s, pQ_n, pQ_r, cm_eq', cm_ne', cm_lt', cm_ge', cm_gt', cm_le', List.getD_cons_zero, List.getD_cons_succ, Nat.reduceAdd, Nat.reduceBEq, Bool.false_or, Bool.or_false, Bool.true_or, Int.reduceToNat, s_iload, s_lload, s_aload, s_istore, s_astore, s_lstore, s_iconst, s_sipush, s_aconst_null, s_iadd, s_isub, s_imul, s_iand, s_ior, s_ixor, s_idiv, s_irem, s_ishl, s_ishr, s_iushr, s_ladd, s_lsub, s_land, s_lor, s_lxor, s_lneg, s_lshl, s_lshr, s_lushr, s_i2l, s_l2i, s_lcmp, s_dup, s_pop, s_dup2, s_i2c, s_i2s, s_monitorenter, s_ifCond, s_if_icmp, s_ifnull, s_goto, s_iinc, s_tableswitch, s_ireturn, s_freturn, s_lreturn, s_areturn, s_return_, s_ldc, s_getfield, s_putfield, s_iaload, s_iastore, s_laload, s_lastore, s_baload, s_bastore, s_aaload, s_aastore, s_arraylength, s_newarray, s_anewarray, s_new, s_invokestatic, s_invokespecial, s_invokevirtual, fvl_0, fvl_1, fvl_2, fvl_3, fp_0, fp_1, fp_2, fp_3, rf_s, rf_n, isRf_b, knw_b, isLg_b, popA_0, popA_s, st1_0, st1_s, st2_e, set_0, set_s, aftC_e, hxP_s, hxP_n, iteF, iteT, bft, im_t, im_f, nt_f, nt_t, Nat.reduceDiv, Nat.reduceMod, Nat.reduceLeDiff, Nat.reduceLT, Nat.reduceEqDiff, List.length_cons, List.length_nil, Nat.zero_add, Nat.reduceSub, List.cons_append, List.nil_append, ak_i, az_i, ar_i, al_i, ai_i, ak_l, az_l, ar_l, al_l, ai_l, ak_r, az_r, ar_r, al_r, ai_r, pk_m1, reduceCtorEq, msk_tb, mskL, Bool.and_eq_true, decide_eq_true_eq, lg_0, lg_t, lg_g, lg_e, lg_l, tb_z, Nat.mod_eq_of_lt, lN_1s, and_ze, brT, brF, brN, vpT, a4095, a63, nI_e, nI_l', nI_t', dif_z, and_z, and_zr, lN_e, nI_clamp, nx_shr, Nat.reducePow, bI_0, bI_1, bI_z, bI_o, bI_or, n01, nI_add, pk_mul, nx_and, nx_or, nx_dif, lx_and, lx_or, lx_dif, Bool.not_eq_true, Bool.not_eq_false, Bool.true_eq_false, Bool.false_eq_true]
  refine st 0 1 n (n * 10 + c 0) (by omega) rfl rfl (by omega) (st 1 2 _ ((n * 10 + c 0) * 10 + c 1) (by omega) rfl rfl (by omega) (st 2 3 _ (((n * 10 + c 0) * 10 + c 1) * 10 + c 2) (by omega) rfl rfl (by omega) (st 3 4 _ _ (by omega) rfl rfl (by omega) ?_)))
  rw [tl]
  have z := l5 (.int (nI 4))
  refine wx_sound (S := [18]) 5 true _ _ _ _ ?_
  simp +contextual (disch := omega) only [K193, wx_t, wx_g, wJ_t, wJ_f, wI_s, CI, CL, C01, aftC_v, aftC_n, true_or, or_true, true_and, and_true, inS_n, inS_c, pI_c, pL_c, pA_c, pV_c, pE_c, pQ_s, pQ_n, pQ_r, cm_eq', cm_ne', cm_lt', cm_ge', cm_gt', cm_le', List.getD_cons_zero, List.getD_cons_succ, Nat.reduceAdd, Nat.reduceBEq, Bool.false_or, Bool.or_false, Bool.true_or, Int.reduceToNat, s_iload, s_lload, s_aload, s_istore, s_astore, s_lstore, s_iconst, s_sipush, s_aconst_null, s_iadd, s_isub, s_imul, s_iand, s_ior, s_ixor, s_idiv, s_irem, s_ishl, s_ishr, s_iushr, s_ladd, s_lsub, s_land, s_lor, s_lxor, s_lneg, s_lshl, s_lshr, s_lushr, s_i2l, s_l2i, s_lcmp, s_dup, s_pop, s_dup2, s_i2c, s_i2s, s_monitorenter, s_ifCond, s_if_icmp, s_ifnull, s_goto, s_iinc, s_tableswitch, s_ireturn, s_freturn, s_lreturn, s_areturn, s_return_, s_ldc, s_getfield, s_putfield, s_iaload, s_iastore, s_laload, s_lastore, s_baload, s_bastore, s_aaload, s_aastore, s_arraylength, s_newarray, s_anewarray, s_new, s_invokestatic, s_invokespecial, s_invokevirtual, fvl_0, fvl_1, fvl_2, fvl_3, fp_0, fp_1, fp_2, fp_3, rf_s, rf_n, isRf_b, knw_b, isLg_b, popA_0, popA_s, st1_0, st1_s, st2_e, set_0, set_s, aftC_e, hxP_s, hxP_n, iteF, iteT, bft, im_t, im_f, nt_f, nt_t, Nat.reduceDiv, Nat.reduceMod, Nat.reduceLeDiff, Nat.reduceLT, Nat.reduceEqDiff, List.length_cons, List.length_nil, Nat.zero_add, Nat.reduceSub, List.cons_append, List.nil_append, ak_i, az_i, ar_i, al_i, ai_i, ak_l, az_l, ar_l, al_l, ai_l, ak_r, az_r, ar_r, al_r, ai_r, pk_m1, reduceCtorEq, msk_tb, mskL, Bool.and_eq_true, decide_eq_true_eq, lg_0, lg_t, lg_g, lg_e, lg_l, tb_z, Nat.mod_eq_of_lt, lN_1s, and_ze, brT, brF, brN, vpT, a4095, a63, nI_e, nI_l', nI_t', dif_z, and_z, and_zr, lN_e, nI_clamp, nx_shr, Nat.reducePow, bI_0, bI_1, bI_z, bI_o, bI_or, n01, nI_add, pk_mul, nx_and, nx_or, nx_dif, lx_and, lx_or, lx_dif, Bool.not_eq_true, Bool.not_eq_false, Bool.true_eq_false, Bool.false_eq_true]
  exact z
end CLS
