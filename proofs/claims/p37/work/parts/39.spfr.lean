/-! INSTANCES THAT ALONE STAND IN THE WAY -/
def hwv (x : Nat) : Int64 := if x = 0 then lN 0 else if (decide (¬ x = 0) && decide (x &&& (x - 1) = 0)) = true then lN x ^^^ (-1) else -1
theorem hwv_e (y x : Nat) (hx : x < 2 ^ 62) : ∃ z, (∀ i, z.testBit i = (y.testBit i && bP (oth x i))) ∧ lN y &&& hwv x = lN z := hw_e y x hx
def sp1 (P : PG) (T F s i : Nat) : Prop := dif T s = 0 ∧ (∀ j, (msk (P_m P) (usat P s)).testBit j = true → j = i) ∧ ∀ t, t &&& s = t → t ≠ s → dif (T ||| F &&& s) t = 0 → oth (msk (P_m P) (usa2 P t s)) i
def spd (P : PG) (T F s i : Nat) : Prop := sp1 P T F s i ∧ chd P (Hd P (dif (hl P s) (2 ^ i))) = true
theorem bP_a {p q : Prop} : (bP p && bP q) = bP (p ∧ q) := by
  rw [← bP_b (bP p && bP q)]
  exact bP_c (by rw [Bool.and_eq_true, bP_t, bP_t])
section CLS
variable {sc : (Nat → Int32) × Nat} {d : Nat} {h : AH} {Q : Rs → AH → Prop} {P : PG}
theorem e_243 (x : Nat) (hx : x < 2 ^ 62) : TC sc (d + 2) 243 [.long (lN x)] h Q ↔ Q (.inl (some (.long (hwv x)))) h := d_243 x hx
theorem d_242 (c : CP h P) {A T F s : Nat} (x : EX h (P_n P) A T F) (hs : s < 2 ^ P_n P) : TC sc (d + 5) 242 [.ref 45, .int (nI s)] h fun q h' => q = .inl (some (.long (lN (msk (P_m P) fun i => bP (spd P T F s i))))) ∧ FR h h' S44 := by
  have := c.n
  have hm := c.m
  have hs2 := Nat.lt_of_lt_of_le hs c.pn
  have hN : T ||| F &&& s < 2 ^ 12 := or_lt (Nat.lt_of_lt_of_le x.2.2.2.2.1 c.pn) (Nat.lt_of_lt_of_le (and_lt x.2.2.2.2.2) c.pn)
  have hT : T < 2 ^ 31 := by have := x.2.2.2.2.1; have := c.pn; omega
  have pl := pop_le s 12
  have mp62 : ∀ f, msk (P_m P) f < 2 ^ 62 := fun f => Nat.lt_trans (c.mp f) (by decide)
  generalize hQ : (fun (q : Rs) (h' : AH) => q = .inl (some (.long (lN (msk (P_m P) fun i => bP (spd P T F s i))))) ∧ FR h h' S44) = Q
  have no : (∀ i, ¬ sp1 P T F s i) → Q (.inl (some (.long (lN 0)))) h := fun n => by
    rw [← hQ]
    refine ⟨?_, FR.refl h _⟩
    rw [(msk_z _ _).mpr fun i _ => bP_no fun z => n i z.1]
  have fin : ∀ z, z = msk (P_m P) (fun i => bP (sp1 P T F s i)) → ∀ (Q' : Rs → AH → Prop), (∀ q h', q = .inl (some (.long (lN (msk (P_m P) fun i => bP (spd P T F s i))))) → FR h h' S44 → Q' q h') → TC sc (d + 4) 244 [.ref 45, .long (lN z), .long (lN (hl P s))] h Q' := by
    rintro z rfl Q' H
    refine TC_mono (d_244 c (msk_lt _ _) (c.h60 s)) ?_
    rintro q h' ⟨rfl, f⟩
    refine H _ _ ?_ f
    rw [msk_c fun i hi => ?_]
    rw [msk_tb]
    simp only [hi, decide_true, Bool.true_and]
    rw [← bP_b (bP (sp1 P T F s i) && _)]
    refine bP_c ?_
    rw [Bool.and_eq_true, bP_t]
    exact Iff.rfl
  have lp : ∀ (B : Nat) (w : Int64), B < 2 ^ P_m P → (∀ i, i < P_m P → (B.testBit i = true ↔ ∀ j, (msk (P_m P) (usat P s)).testBit j = true → j = i)) → dif T s = 0 →
     ∀ j t, rk s t 12 = j → t &&& s = t → ∀ z, (∀ i, z.testBit i = (B.testBit i && bP (∀ u, u &&& s = u → rk s t 12 ≤ rk s u 12 → u ≠ s → dif (T ||| F &&& s) u = 0 → oth (msk (P_m P) (usa2 P u s)) i))) →
      TT sc (d + 4) 242 Q 44 [.ref 45, .int (nI s), .long w, unk, .long (lN z), unk, .int (nI (T ||| F &&& s)), .int (nI t), .int (nI (j + 1))] [] h := by
    intro B w hB hb e1 j
    have zb : ∀ t z : Nat, (∀ i, z.testBit i = (B.testBit i && bP (∀ u, u &&& s = u → rk s t 12 ≤ rk s u 12 → u ≠ s → dif (T ||| F &&& s) u = 0 → oth (msk (P_m P) (usa2 P u s)) i))) → z < 2 ^ P_m P := fun t z H => lt_of_tb fun i hi => by rw [H i, tb_ge hB hi, Bool.false_and]
    have zm : ∀ t z : Nat, (∀ i, z.testBit i = (B.testBit i && bP (∀ u, u &&& s = u → rk s t 12 ≤ rk s u 12 → u ≠ s → dif (T ||| F &&& s) u = 0 → oth (msk (P_m P) (usa2 P u s)) i))) → (rk s t 12 = 0 ∨ z = 0) → z = msk (P_m P) fun i => bP (sp1 P T F s i) := fun t z H o => by
      refine eq_msk (zb t z H) fun i hi => ?_
      rcases o with o | o
      · rw [H i, ← bP_b (B.testBit i && _)]
        refine bP_c ?_
        rw [Bool.and_eq_true, bP_t, hb i hi]
        exact ⟨fun q => ⟨e1, q.1, fun u h1 h2 h3 => q.2 u h1 (by rw [o]; omega) h2 h3⟩, fun q => ⟨q.2.1, fun u h1 _ h2 h3 => q.2.2 u h1 h2 h3⟩⟩
      · subst o
        have := H i
        rw [Nat.zero_testBit] at this ⊢
        refine (bP_no fun q => ?_).symm
        rw [(hb i hi).mpr q.2.1, bP_of fun u h1 _ h2 h3 => q.2.2 u h1 h2 h3] at this
        cases this
    induction j with
    | zero =>
      intro t hr ht z H
      refine wx_sound (S := [44]) 60 true _ _ _ _ ?_
      simp +contextual (disch := omega) only [K242, wx_t, wx_g, wJ_t, wJ_f, wI_s, CI, CL, C01, aftC_v, aftC_n, true_or, or_true, true_and, and_true, inS_n, inS_c, pI_c, pL_c, pA_c, pV_c, pE_c, pQ_s, pQ_n, pQ_r, cm_eq', cm_ne', cm_lt', cm_ge', cm_gt', cm_le', List.getD_cons_zero, List.getD_cons_succ, Nat.reduceAdd, Nat.reduceBEq, Bool.false_or, Bool.or_false, Bool.true_or, Int.reduceToNat, s_iload, s_lload, s_aload, s_istore, s_astore, s_lstore, s_iconst, s_sipush, s_aconst_null, s_iadd, s_isub, s_imul, s_iand, s_ior, s_ixor, s_idiv, s_irem, s_ishl, s_ishr, s_iushr, s_ladd, s_lsub, s_land, s_lor, s_lxor, s_lneg, s_lshl, s_lshr, s_lushr, s_i2l, s_l2i, s_lcmp, s_dup, s_pop, s_dup2, s_i2c, s_i2s, s_monitorenter, s_ifCond, s_if_icmp, s_ifnull, s_goto, s_iinc, s_tableswitch, s_ireturn, s_freturn, s_lreturn, s_areturn, s_return_, s_ldc, s_getfield, s_putfield, s_iaload, s_iastore, s_laload, s_lastore, s_baload, s_bastore, s_aaload, s_aastore, s_arraylength, s_newarray, s_anewarray, s_new, s_invokestatic, s_invokespecial, s_invokevirtual, fvl_0, fvl_1, fvl_2, fvl_3, fp_0, fp_1, fp_2, fp_3, rf_s, rf_n, isRf_b, knw_b, isLg_b, popA_0, popA_s, st1_0, st1_s, st2_e, set_0, set_s, aftC_e, hxP_s, hxP_n, iteF, iteT, bft, im_t, im_f, nt_f, nt_t, Nat.reduceDiv, Nat.reduceMod, Nat.reduceLeDiff, Nat.reduceLT, Nat.reduceEqDiff, List.length_cons, List.length_nil, Nat.zero_add, Nat.reduceSub, List.cons_append, List.nil_append, ak_i, az_i, ar_i, al_i, ai_i, ak_l, az_l, ar_l, al_l, ai_l, ak_r, az_r, ar_r, al_r, ai_r, pk_m1, reduceCtorEq, msk_tb, mskL, Bool.and_eq_true, decide_eq_true_eq, lg_0, lg_t, lg_g, lg_e, lg_l, tb_z, Nat.mod_eq_of_lt, lN_1s, and_ze, brT, brF, brN, vpT, a4095, a63, nI_e, nI_l', nI_t', dif_z, and_z, and_zr, lN_e, nI_clamp, nx_shr, Nat.reducePow, bI_0, bI_1, bI_z, bI_o, bI_or, n01, nI_add, pk_mul, nx_and, nx_or, nx_dif, lx_and, lx_or, lx_dif, Bool.not_eq_true, Bool.not_eq_false, Bool.true_eq_false, Bool.false_eq_true, ss_0 c.1, ss_19 c.1, ss_23 c.1, ss_27 c.1, ss_28 c.1, ss_31 c.1, ss_43 c.1, ss_45 c.1, ss_46 c.1, ss_49 c.1, d_220 c hs]
      refine fin z (zm t z H (Or.inl hr)) _ ?_
      rintro q h' rfl f
      simp +contextual (disch := omega) only [K242, wx_t, wx_g, wJ_t, wJ_f, wI_s, CI, CL, C01, aftC_v, aftC_n, true_or, or_true, true_and, and_true, inS_n, inS_c, pI_c, pL_c, pA_c, pV_c, pE_c, pQ_s, pQ_n, pQ_r, cm_eq', cm_ne', cm_lt', cm_ge', cm_gt', cm_le', List.getD_cons_zero, List.getD_cons_succ, Nat.reduceAdd, Nat.reduceBEq, Bool.false_or, Bool.or_false, Bool.true_or, Int.reduceToNat, s_iload, s_lload, s_aload, s_istore, s_astore, s_lstore, s_iconst, s_sipush, s_aconst_null, s_iadd, s_isub, s_imul, s_iand, s_ior, s_ixor, s_idiv, s_irem, s_ishl, s_ishr, s_iushr, s_ladd, s_lsub, s_land, s_lor, s_lxor, s_lneg, s_lshl, s_lshr, s_lushr, s_i2l, s_l2i, s_lcmp, s_dup, s_pop, s_dup2, s_i2c, s_i2s, s_monitorenter, s_ifCond, s_if_icmp, s_ifnull, s_goto, s_iinc, s_tableswitch, s_ireturn, s_freturn, s_lreturn, s_areturn, s_return_, s_ldc, s_getfield, s_putfield, s_iaload, s_iastore, s_laload, s_lastore, s_baload, s_bastore, s_aaload, s_aastore, s_arraylength, s_newarray, s_anewarray, s_new, s_invokestatic, s_invokespecial, s_invokevirtual, fvl_0, fvl_1, fvl_2, fvl_3, fp_0, fp_1, fp_2, fp_3, rf_s, rf_n, isRf_b, knw_b, isLg_b, popA_0, popA_s, st1_0, st1_s, st2_e, set_0, set_s, aftC_e, hxP_s, hxP_n, iteF, iteT, bft, im_t, im_f, nt_f, nt_t, Nat.reduceDiv, Nat.reduceMod, Nat.reduceLeDiff, Nat.reduceLT, Nat.reduceEqDiff, List.length_cons, List.length_nil, Nat.zero_add, Nat.reduceSub, List.cons_append, List.nil_append, ak_i, az_i, ar_i, al_i, ai_i, ak_l, az_l, ar_l, al_l, ai_l, ak_r, az_r, ar_r, al_r, ai_r, pk_m1, reduceCtorEq, msk_tb, mskL, Bool.and_eq_true, decide_eq_true_eq, lg_0, lg_t, lg_g, lg_e, lg_l, tb_z, Nat.mod_eq_of_lt, lN_1s, and_ze, brT, brF, brN, vpT, a4095, a63, nI_e, nI_l', nI_t', dif_z, and_z, and_zr, lN_e, nI_clamp, nx_shr, Nat.reducePow, bI_0, bI_1, bI_z, bI_o, bI_or, n01, nI_add, pk_mul, nx_and, nx_or, nx_dif, lx_and, lx_or, lx_dif, Bool.not_eq_true, Bool.not_eq_false, Bool.true_eq_false, Bool.false_eq_true]
      rw [← hQ]
      exact ⟨rfl, f⟩
    | succ j ih =>
      intro t hr ht z H
      have t0 : t ≠ 0 := by rintro rfl; rw [rk_0] at hr; omega
      have tl : t < 2 ^ 12 := Nat.lt_of_le_of_lt (ht ▸ Nat.and_le_right) hs2
      have e := rk_pred (n := 12) tl t0 (sub_tb.mp ht)
      have hs3 : (t - 1) &&& s < 2 ^ P_n P := Nat.lt_of_le_of_lt Nat.and_le_right hs
      have lj : j < 4096 := by
        have := rk_lt s t 12
        have := p2_le (n := 12) pl
        omega
      have p1 : nI t - nI 1 = nI (t - 1) := pk_sub (by omega)
      have hz := Nat.lt_trans (zb t z H) (p2_lt (n := 62) (by omega))
      have hz3 : z < 9223372036854775808 := Nat.lt_trans hz (by decide)
      have as : (t - 1 &&& s) &&& s = t - 1 &&& s := by rw [Nat.and_assoc, Nat.and_self]
      obtain ⟨z2, hz2, hw⟩ := hwv_e z (msk (P_m P) (usa2 P (t - 1 &&& s) s)) (mp62 _)
      refine wx_sound (S := [44]) 60 true _ _ _ _ ?_
      simp +contextual (disch := omega) only [K242, wx_t, wx_g, wJ_t, wJ_f, wI_s, CI, CL, C01, aftC_v, aftC_n, true_or, or_true, true_and, and_true, inS_n, inS_c, pI_c, pL_c, pA_c, pV_c, pE_c, pQ_s, pQ_n, pQ_r, cm_eq', cm_ne', cm_lt', cm_ge', cm_gt', cm_le', List.getD_cons_zero, List.getD_cons_succ, Nat.reduceAdd, Nat.reduceBEq, Bool.false_or, Bool.or_false, Bool.true_or, Int.reduceToNat, s_iload, s_lload, s_aload, s_istore, s_astore, s_lstore, s_iconst, s_sipush, s_aconst_null, s_iadd, s_isub, s_imul, s_iand, s_ior, s_ixor, s_idiv, s_irem, s_ishl, s_ishr, s_iushr, s_ladd, s_lsub, s_land, s_lor, s_lxor, s_lneg, s_lshl, s_lshr, s_lushr, s_i2l, s_l2i, s_lcmp, s_dup, s_pop, s_dup2, s_i2c, s_i2s, s_monitorenter, s_ifCond, s_if_icmp, s_ifnull, s_goto, s_iinc, s_tableswitch, s_ireturn, s_freturn, s_lreturn, s_areturn, s_return_, s_ldc, s_getfield, s_putfield, s_iaload, s_iastore, s_laload, s_lastore, s_baload, s_bastore, s_aaload, s_aastore, s_arraylength, s_newarray, s_anewarray, s_new, s_invokestatic, s_invokespecial, s_invokevirtual, fvl_0, fvl_1, fvl_2, fvl_3, fp_0, fp_1, fp_2, fp_3, rf_s, rf_n, isRf_b, knw_b, isLg_b, popA_0, popA_s, st1_0, st1_s, st2_e, set_0, set_s, aftC_e, hxP_s, hxP_n, iteF, iteT, bft, im_t, im_f, nt_f, nt_t, Nat.reduceDiv, Nat.reduceMod, Nat.reduceLeDiff, Nat.reduceLT, Nat.reduceEqDiff, List.length_cons, List.length_nil, Nat.zero_add, Nat.reduceSub, List.cons_append, List.nil_append, ak_i, az_i, ar_i, al_i, ai_i, ak_l, az_l, ar_l, al_l, ai_l, ak_r, az_r, ar_r, al_r, ai_r, pk_m1, reduceCtorEq, msk_tb, mskL, Bool.and_eq_true, decide_eq_true_eq, lg_0, lg_t, lg_g, lg_e, lg_l, tb_z, Nat.mod_eq_of_lt, lN_1s, and_ze, brT, brF, brN, vpT, a4095, a63, nI_e, nI_l', nI_t', dif_z, and_z, and_zr, lN_e, nI_clamp, nx_shr, Nat.reducePow, bI_0, bI_1, bI_z, bI_o, bI_or, n01, nI_add, pk_mul, nx_and, nx_or, nx_dif, lx_and, lx_or, lx_dif, Bool.not_eq_true, Bool.not_eq_false, Bool.true_eq_false, Bool.false_eq_true, ss_0 c.1, ss_19 c.1, ss_23 c.1, ss_27 c.1, ss_28 c.1, ss_31 c.1, ss_43 c.1, ss_45 c.1, ss_46 c.1, ss_49 c.1, p1, d_224 c hs3 hs, d_220 c hs, e_243 _ (mp62 _), hw]
      have nes : t - 1 &&& s ≠ s := by
        intro q2
        have l1 := rk_lt s s 12
        have f : rk s s 12 + 1 = 2 ^ pop s 12 := rk_full fun i _ h => h
        have l2 := rk_lt s t 12
        rw [q2] at e
        omega
      refine And.intro (fun e2 => ?_) fun e2 => And.intro (fun e3 => ?_) fun e3 => ?_
      · subst e2
        refine fin 0 (zm t 0 H (Or.inr rfl)) _ ?_
        rintro q h' rfl f
        simp +contextual (disch := omega) only [K242, wx_t, wx_g, wJ_t, wJ_f, wI_s, CI, CL, C01, aftC_v, aftC_n, true_or, or_true, true_and, and_true, inS_n, inS_c, pI_c, pL_c, pA_c, pV_c, pE_c, pQ_s, pQ_n, pQ_r, cm_eq', cm_ne', cm_lt', cm_ge', cm_gt', cm_le', List.getD_cons_zero, List.getD_cons_succ, Nat.reduceAdd, Nat.reduceBEq, Bool.false_or, Bool.or_false, Bool.true_or, Int.reduceToNat, s_iload, s_lload, s_aload, s_istore, s_astore, s_lstore, s_iconst, s_sipush, s_aconst_null, s_iadd, s_isub, s_imul, s_iand, s_ior, s_ixor, s_idiv, s_irem, s_ishl, s_ishr, s_iushr, s_ladd, s_lsub, s_land, s_lor, s_lxor, s_lneg, s_lshl, s_lshr, s_lushr, s_i2l, s_l2i, s_lcmp, s_dup, s_pop, s_dup2, s_i2c, s_i2s, s_monitorenter, s_ifCond, s_if_icmp, s_ifnull, s_goto, s_iinc, s_tableswitch, s_ireturn, s_freturn, s_lreturn, s_areturn, s_return_, s_ldc, s_getfield, s_putfield, s_iaload, s_iastore, s_laload, s_lastore, s_baload, s_bastore, s_aaload, s_aastore, s_arraylength, s_newarray, s_anewarray, s_new, s_invokestatic, s_invokespecial, s_invokevirtual, fvl_0, fvl_1, fvl_2, fvl_3, fp_0, fp_1, fp_2, fp_3, rf_s, rf_n, isRf_b, knw_b, isLg_b, popA_0, popA_s, st1_0, st1_s, st2_e, set_0, set_s, aftC_e, hxP_s, hxP_n, iteF, iteT, bft, im_t, im_f, nt_f, nt_t, Nat.reduceDiv, Nat.reduceMod, Nat.reduceLeDiff, Nat.reduceLT, Nat.reduceEqDiff, List.length_cons, List.length_nil, Nat.zero_add, Nat.reduceSub, List.cons_append, List.nil_append, ak_i, az_i, ar_i, al_i, ai_i, ak_l, az_l, ar_l, al_l, ai_l, ak_r, az_r, ar_r, al_r, ai_r, pk_m1, reduceCtorEq, msk_tb, mskL, Bool.and_eq_true, decide_eq_true_eq, lg_0, lg_t, lg_g, lg_e, lg_l, tb_z, Nat.mod_eq_of_lt, lN_1s, and_ze, brT, brF, brN, vpT, a4095, a63, nI_e, nI_l', nI_t', dif_z, and_z, and_zr, lN_e, nI_clamp, nx_shr, Nat.reducePow, bI_0, bI_1, bI_z, bI_o, bI_or, n01, nI_add, pk_mul, nx_and, nx_or, nx_dif, lx_and, lx_or, lx_dif, Bool.not_eq_true, Bool.not_eq_false, Bool.true_eq_false, Bool.false_eq_true]
        rw [← hQ]
        exact ⟨rfl, f⟩
      · refine ih _ (by omega) as _ fun i => ?_
        rw [hz2 i, H i, Bool.and_assoc, bP_a]
        congr 1
        refine bP_c ⟨fun q => wk_s (p := fun u => dif (T ||| F &&& s) u = 0 → oth (msk (P_m P) (usa2 P u s)) i) hs2 ht t0 q.1 fun _ => q.2, fun q => ⟨fun u h1 h2 h3 h4 => q u h1 (by omega) h3 h4, q _ as (Nat.le_refl _) nes e3⟩⟩
      · refine ih _ (by omega) as _ fun i => ?_
        rw [H i]
        congr 1
        refine bP_c ⟨fun q => wk_s (p := fun u => dif (T ||| F &&& s) u = 0 → oth (msk (P_m P) (usa2 P u s)) i) hs2 ht t0 q fun z => absurd z e3, fun q u h1 h2 h3 h4 => q u h1 (by omega) h3 h4⟩
  refine TC_e (ls := [.ref 45, .int (nI s), unk, unk, unk, unk, unk, unk, unk]) (Nat.le_of_ble_eq_true rfl) rfl (wx_sound (S := [44]) 60 true _ _ _ _ ?_)
  simp +contextual (disch := omega) only [K242, wx_t, wx_g, wJ_t, wJ_f, wI_s, CI, CL, C01, aftC_v, aftC_n, true_or, or_true, true_and, and_true, inS_n, inS_c, pI_c, pL_c, pA_c, pV_c, pE_c, pQ_s, pQ_n, pQ_r, cm_eq', cm_ne', cm_lt', cm_ge', cm_gt', cm_le', List.getD_cons_zero, List.getD_cons_succ, Nat.reduceAdd, Nat.reduceBEq, Bool.false_or, Bool.or_false, Bool.true_or, Int.reduceToNat, s_iload, s_lload, s_aload, s_istore, s_astore, s_lstore, s_iconst, s_sipush, s_aconst_null, s_iadd, s_isub, s_imul, s_iand, s_ior, s_ixor, s_idiv, s_irem, s_ishl, s_ishr, s_iushr, s_ladd, s_lsub, s_land, s_lor, s_lxor, s_lneg, s_lshl, s_lshr, s_lushr, s_i2l, s_l2i, s_lcmp, s_dup, s_pop, s_dup2, s_i2c, s_i2s, s_monitorenter, s_ifCond, s_if_icmp, s_ifnull, s_goto, s_iinc, s_tableswitch, s_ireturn, s_freturn, s_lreturn, s_areturn, s_return_, s_ldc, s_getfield, s_putfield, s_iaload, s_iastore, s_laload, s_lastore, s_baload, s_bastore, s_aaload, s_aastore, s_arraylength, s_newarray, s_anewarray, s_new, s_invokestatic, s_invokespecial, s_invokevirtual, fvl_0, fvl_1, fvl_2, fvl_3, fp_0, fp_1, fp_2, fp_3, rf_s, rf_n, isRf_b, knw_b, isLg_b, popA_0, popA_s, st1_0, st1_s, st2_e, set_0, set_s, aftC_e, hxP_s, hxP_n, iteF, iteT, bft, im_t, im_f, nt_f, nt_t, Nat.reduceDiv, Nat.reduceMod, Nat.reduceLeDiff, Nat.reduceLT, Nat.reduceEqDiff, List.length_cons, List.length_nil, Nat.zero_add, Nat.reduceSub, List.cons_append, List.nil_append, ak_i, az_i, ar_i, al_i, ai_i, ak_l, az_l, ar_l, al_l, ai_l, ak_r, az_r, ar_r, al_r, ai_r, pk_m1, reduceCtorEq, msk_tb, mskL, Bool.and_eq_true, decide_eq_true_eq, lg_0, lg_t, lg_g, lg_e, lg_l, tb_z, Nat.mod_eq_of_lt, lN_1s, and_ze, brT, brF, brN, vpT, a4095, a63, nI_e, nI_l', nI_t', dif_z, and_z, and_zr, lN_e, nI_clamp, nx_shr, Nat.reducePow, bI_0, bI_1, bI_z, bI_o, bI_or, n01, nI_add, pk_mul, nx_and, nx_or, nx_dif, lx_and, lx_or, lx_dif, Bool.not_eq_true, Bool.not_eq_false, Bool.true_eq_false, Bool.false_eq_true, ss_0 c.1, ss_19 c.1, ss_23 c.1, ss_27 c.1, ss_28 c.1, ss_31 c.1, ss_43 c.1, ss_45 c.1, ss_46 c.1, ss_49 c.1, x.2.1, d_222 c hs, d_204 c, c_57 _ (mp62 _), d_176 c.1 x, d_278 s hs2, nx_bit]
  have f : rk s s 12 + 1 = 2 ^ pop s 12 := rk_full fun i _ h => h
  rw [← f]
  refine And.intro (fun e1 => And.intro (fun e2 => ?_) fun e2 => And.intro (fun e3 => ?_) fun e3 => ?_) fun e1 => no fun i q => e1 q.1
  · refine lp (msk (P_m P) fun _ => true) (lN 0) (msk_lt _ _) ?_ e1 _ s rfl (Nat.and_self s) _ fun i => ?_
    · intro i hi
      rw [e2]
      simp [msk_tb, hi]
    · rw [bP_of (wk_0 hs2), Bool.and_true]
  · refine no fun i q => ?_
    have h2 : msk (P_m P) (usat P s) = 2 ^ i := Nat.eq_of_testBit_eq fun j => by
      rw [tb_pow]
      cases e : (msk (P_m P) (usat P s)).testBit j
      · by_cases r : i = j
        · subst r
          refine (e2 (Nat.eq_of_testBit_eq fun j => ?_)).elim
          rw [Nat.zero_testBit]
          cases e5 : (msk (P_m P) (usat P s)).testBit j
          · rfl
          · rw [q.2.1 j e5, e] at e5
            cases e5
        · simp [r]
      · simp [q.2.1 j e]
    have h4 := (iso_pow.mpr ⟨i, h2⟩).2
    rw [h4] at e3
    cases e3
  · obtain ⟨k, hk⟩ := iso_pow.mp ⟨e2, e3⟩
    refine lp (msk (P_m P) (usat P s)) _ (msk_lt _ _) ?_ e1 _ s rfl (Nat.and_self s) _ fun i => ?_
    · intro i hi
      rw [hk]
      simp only [tb_pow, decide_eq_true_eq]
      exact ⟨fun q j r => r ▸ q, fun q => q k rfl⟩
    · rw [bP_of (wk_0 hs2), Bool.and_true]
end CLS
