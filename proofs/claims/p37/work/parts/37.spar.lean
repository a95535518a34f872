/-! INSTANCES THAT MAY BE SPARED -/
theorem msk_nt {m k : Nat} {g : Nat → Bool} (hk : k < m) (h : g k = true) : msk m (fun i => decide (i < k) && g i) ||| 2 ^ k = msk m fun i => decide (i < k + 1) && g i :=
  msk_add hk (by simp [h]) fun i _ ne => by rw [dlt ne]
theorem msk_nf {m k : Nat} {g : Nat → Bool} (h : g k = false) : msk m (fun i => decide (i < k) && g i) = msk m fun i => decide (i < k + 1) && g i :=
  msk_c fun i _ => by
    by_cases e : i = k
    · subst e; simp [h]
    · rw [dlt e]
theorem msk_nd {m k : Nat} {g : Nat → Bool} (hk : m ≤ k) : msk m (fun i => decide (i < k) && g i) = msk m g :=
  msk_c fun i hi => by
    have : i < k := by omega
    simp [this]
theorem msk_n0 {m : Nat} {g : Nat → Bool} : 0 = msk m fun i => decide (i < 0) && g i := ((msk_z _ _).mpr fun i _ => by simp).symm
section CLS
variable {sc : (Nat → Int32) × Nat} {d : Nat} {h : AH} {Q : Rs → AH → Prop} {P : PG}
theorem chd_all (o : P_ok P) {H : Nat} (h : chd P (Hd P H) = true) (i : Nat) : chd P (Hd P (dif H (2 ^ i))) = true :=
  chd_mono o Hd_k (fun j hj => by
    unfold Hd at *
    rw [Nat.testBit_and, dif_tb] at hj
    rw [Nat.testBit_and]
    simp only [Bool.and_eq_true] at *
    exact ⟨hj.1.1, hj.2⟩) h
theorem dif_no {H i : Nat} (h : H.testBit i = false) : dif H (2 ^ i) = H := Nat.eq_of_testBit_eq fun j => by
  rw [dif_tb, tb_pow]
  by_cases e : i = j
  · subst e; simp [h]
  · simp [e]
theorem d_244 (c : CP h P) {x H : Nat} (hx : x < 2 ^ P_m P) (hH : H < 2 ^ 62) : TC sc (d + 4) 244 [.ref 45, .long (lN x), .long (lN H)] h fun q h' => q = .inl (some (.long (lN (msk (P_m P) fun i => x.testBit i && chd P (Hd P (dif H (2 ^ i))))))) ∧ FR h h' S44 := by
  have hm := c.m
  have hx62 : x < 2 ^ 62 := Nat.lt_of_lt_of_le hx (p2_le (by omega))
  generalize hQ : (fun (q : Rs) (h' : AH) => q = .inl (some (.long (lN (msk (P_m P) fun i => x.testBit i && chd P (Hd P (dif H (2 ^ i))))))) ∧ FR h h' S44) = Q
  have fin : ∀ (y : Nat) (h' : AH), y = (msk (P_m P) fun i => x.testBit i && chd P (Hd P (dif H (2 ^ i)))) → FR h h' S44 → Q (.inl (some (.long (lN y)))) h' := fun y h' e f => by rw [← hQ, e]; exact ⟨rfl, f⟩
  have lp : ∀ k, k ≤ P_m P → chd P (Hd P H) = false → ∀ h', FR h h' S44 → ∀ y z, y = (msk (P_m P) fun i => decide (i < k) && (x.testBit i && chd P (Hd P (dif H (2 ^ i))))) →
      TT sc (d + 3) 244 Q 17 [.ref 45, .long (lN x), unk, .long (lN H), unk, .long (lN y), unk, .int (nI k), z, unk] [] h' := by
    refine up_to fun k hk ih => ?_
    intro e0 h' f y z hy
    have c' := f44 c f
    refine wx_sound (S := [17]) 60 true _ _ _ _ ?_
    simp +contextual (disch := omega) only [K244, wx_t, wx_g, wJ_t, wJ_f, wI_s, CI, CL, C01, aftC_v, aftC_n, true_or, or_true, true_and, and_true, inS_n, inS_c, pI_c, pL_c, pA_c, pV_c, pE_c, pQ_s, pQ_n, pQ_r, cm_eq', cm_ne', cm_lt', cm_ge', cm_gt', cm_le', List.getD_cons_zero, List.getD_cons_succ, Nat.reduceAdd, Nat.reduceBEq, Bool.false_or, Bool.or_false, Bool.true_or, Int.reduceToNat, s_iload, s_lload, s_aload, s_istore, s_astore, s_lstore, s_iconst, s_sipush, s_aconst_null, s_iadd, s_isub, s_imul, s_iand, s_ior, s_ixor, s_idiv, s_irem, s_ishl, s_ishr, s_iushr, s_ladd, s_lsub, s_land, s_lor, s_lxor, s_lneg, s_lshl, s_lshr, s_lushr, s_i2l, s_l2i, s_lcmp, s_dup, s_pop, s_dup2, s_i2c, s_i2s, s_monitorenter, s_ifCond, s_if_icmp, s_ifnull, s_goto, s_iinc, s_tableswitch, s_ireturn, s_freturn, s_lreturn, s_areturn, s_return_, s_ldc, s_getfield, s_putfield, s_iaload, s_iastore, s_laload, s_lastore, s_baload, s_bastore, s_aaload, s_aastore, s_arraylength, s_newarray, s_anewarray, s_new, s_invokestatic, s_invokespecial, s_invokevirtual, fvl_0, fvl_1, fvl_2, fvl_3, fp_0, fp_1, fp_2, fp_3, rf_s, rf_n, isRf_b, knw_b, isLg_b, popA_0, popA_s, st1_0, st1_s, st2_e, set_0, set_s, aftC_e, hxP_s, hxP_n, iteF, iteT, bft, im_t, im_f, nt_f, nt_t, Nat.reduceDiv, Nat.reduceMod, Nat.reduceLeDiff, Nat.reduceLT, Nat.reduceEqDiff, List.length_cons, List.length_nil, Nat.zero_add, Nat.reduceSub, List.cons_append, List.nil_append, ak_i, az_i, ar_i, al_i, ai_i, ak_l, az_l, ar_l, al_l, ai_l, ak_r, az_r, ar_r, al_r, ai_r, pk_m1, reduceCtorEq, msk_tb, mskL, Bool.and_eq_true, decide_eq_true_eq, lg_0, lg_t, lg_g, lg_e, lg_l, tb_z, Nat.mod_eq_of_lt, lN_1s, and_ze, brT, brF, brN, vpT, a4095, a63, nI_e, nI_l', nI_t', dif_z, and_z, and_zr, lN_e, nI_clamp, nx_shr, Nat.reducePow, bI_0, bI_1, bI_z, bI_o, bI_or, n01, nI_add, pk_mul, nx_and, nx_or, nx_dif, lx_and, lx_or, lx_dif, Bool.not_eq_true, Bool.not_eq_false, Bool.true_eq_false, Bool.false_eq_true, ss_0 c'.1, ss_19 c'.1, ss_23 c'.1, ss_27 c'.1, ss_28 c'.1, ss_31 c'.1, ss_43 c'.1, ss_45 c'.1, ss_46 c'.1, ss_49 c'.1, c'.f.2.1, c'.f.1, lx_bit]
    refine And.intro (fun e => fin _ _ (by rw [hy, msk_nd e]) f) fun e => And.intro (fun e1 => ?_) fun e1 => ?_
    · refine ih (by omega) e0 h' f y _ ?_
      rw [and_ze (Nat.lt_trans (and_lt hx) (p2_lt (by omega))), and_pow_z, Nat.testBit_and] at e1
      rw [hy]
      refine msk_nf ?_
      cases e2 : x.testBit k
      · rfl
      · rw [e2, Bool.true_and] at e1
        rw [dif_no e1, e0]; rfl
    · rw [and_ze (Nat.lt_trans (and_lt hx) (p2_lt (by omega))), and_pow_z, Nat.testBit_and, Bool.not_eq_false, Bool.and_eq_true] at e1
      refine TC_mono (d_152 c' (dif_lt hH)) ?_
      rintro q h2 ⟨rfl, f2, -⟩
      simp +contextual (disch := omega) only [K244, wx_t, wx_g, wJ_t, wJ_f, wI_s, CI, CL, C01, aftC_v, aftC_n, true_or, or_true, true_and, and_true, inS_n, inS_c, pI_c, pL_c, pA_c, pV_c, pE_c, pQ_s, pQ_n, pQ_r, cm_eq', cm_ne', cm_lt', cm_ge', cm_gt', cm_le', List.getD_cons_zero, List.getD_cons_succ, Nat.reduceAdd, Nat.reduceBEq, Bool.false_or, Bool.or_false, Bool.true_or, Int.reduceToNat, s_iload, s_lload, s_aload, s_istore, s_astore, s_lstore, s_iconst, s_sipush, s_aconst_null, s_iadd, s_isub, s_imul, s_iand, s_ior, s_ixor, s_idiv, s_irem, s_ishl, s_ishr, s_iushr, s_ladd, s_lsub, s_land, s_lor, s_lxor, s_lneg, s_lshl, s_lshr, s_lushr, s_i2l, s_l2i, s_lcmp, s_dup, s_pop, s_dup2, s_i2c, s_i2s, s_monitorenter, s_ifCond, s_if_icmp, s_ifnull, s_goto, s_iinc, s_tableswitch, s_ireturn, s_freturn, s_lreturn, s_areturn, s_return_, s_ldc, s_getfield, s_putfield, s_iaload, s_iastore, s_laload, s_lastore, s_baload, s_bastore, s_aaload, s_aastore, s_arraylength, s_newarray, s_anewarray, s_new, s_invokestatic, s_invokespecial, s_invokevirtual, fvl_0, fvl_1, fvl_2, fvl_3, fp_0, fp_1, fp_2, fp_3, rf_s, rf_n, isRf_b, knw_b, isLg_b, popA_0, popA_s, st1_0, st1_s, st2_e, set_0, set_s, aftC_e, hxP_s, hxP_n, iteF, iteT, bft, im_t, im_f, nt_f, nt_t, Nat.reduceDiv, Nat.reduceMod, Nat.reduceLeDiff, Nat.reduceLT, Nat.reduceEqDiff, List.length_cons, List.length_nil, Nat.zero_add, Nat.reduceSub, List.cons_append, List.nil_append, ak_i, az_i, ar_i, al_i, ai_i, ak_l, az_l, ar_l, al_l, ai_l, ak_r, az_r, ar_r, al_r, ai_r, pk_m1, reduceCtorEq, msk_tb, mskL, Bool.and_eq_true, decide_eq_true_eq, lg_0, lg_t, lg_g, lg_e, lg_l, tb_z, Nat.mod_eq_of_lt, lN_1s, and_ze, brT, brF, brN, vpT, a4095, a63, nI_e, nI_l', nI_t', dif_z, and_z, and_zr, lN_e, nI_clamp, nx_shr, Nat.reducePow, bI_0, bI_1, bI_z, bI_o, bI_or, n01, nI_add, pk_mul, nx_and, nx_or, nx_dif, lx_and, lx_or, lx_dif, Bool.not_eq_true, Bool.not_eq_false, Bool.true_eq_false, Bool.false_eq_true, bI_or, lx_or]
      have f3 := f.trans f2 fun _ _ z => z
      refine And.intro (fun e3 => ?_) fun e3 => ?_
      · refine ih (by omega) e0 _ f3 y _ ?_
        rw [hy]
        exact msk_nf (by rw [e3, Bool.and_false])
      · refine ih (by omega) e0 _ f3 _ _ ?_
        rw [hy]
        exact msk_nt (by omega) (by rw [e3, e1.1]; rfl)
  refine TC_e (ls := [.ref 45, .long (lN x), unk, .long (lN H), unk, unk, unk, unk, unk, unk]) (Nat.le_of_ble_eq_true rfl) rfl (wx_sound (S := [17]) 60 true _ _ _ _ ?_)
  simp +contextual (disch := omega) only [K244, wx_t, wx_g, wJ_t, wJ_f, wI_s, CI, CL, C01, aftC_v, aftC_n, true_or, or_true, true_and, and_true, inS_n, inS_c, pI_c, pL_c, pA_c, pV_c, pE_c, pQ_s, pQ_n, pQ_r, cm_eq', cm_ne', cm_lt', cm_ge', cm_gt', cm_le', List.getD_cons_zero, List.getD_cons_succ, Nat.reduceAdd, Nat.reduceBEq, Bool.false_or, Bool.or_false, Bool.true_or, Int.reduceToNat, s_iload, s_lload, s_aload, s_istore, s_astore, s_lstore, s_iconst, s_sipush, s_aconst_null, s_iadd, s_isub, s_imul, s_iand, s_ior, s_ixor, s_idiv, s_irem, s_ishl, s_ishr, s_iushr, s_ladd, s_lsub, s_land, s_lor, s_lxor, s_lneg, s_lshl, s_lshr, s_lushr, s_i2l, s_l2i, s_lcmp, s_dup, s_pop, s_dup2, s_i2c, s_i2s, s_monitorenter, s_ifCond, s_if_icmp, s_ifnull, s_goto, s_iinc, s_tableswitch, s_ireturn, s_freturn, s_lreturn, s_areturn, s_return_, s_ldc, s_getfield, s_putfield, s_iaload, s_iastore, s_laload, s_lastore, s_baload, s_bastore, s_aaload, s_aastore, s_arraylength, s_newarray, s_anewarray, s_new, s_invokestatic, s_invokespecial, s_invokevirtual, fvl_0, fvl_1, fvl_2, fvl_3, fp_0, fp_1, fp_2, fp_3, rf_s, rf_n, isRf_b, knw_b, isLg_b, popA_0, popA_s, st1_0, st1_s, st2_e, set_0, set_s, aftC_e, hxP_s, hxP_n, iteF, iteT, bft, im_t, im_f, nt_f, nt_t, Nat.reduceDiv, Nat.reduceMod, Nat.reduceLeDiff, Nat.reduceLT, Nat.reduceEqDiff, List.length_cons, List.length_nil, Nat.zero_add, Nat.reduceSub, List.cons_append, List.nil_append, ak_i, az_i, ar_i, al_i, ai_i, ak_l, az_l, ar_l, al_l, ai_l, ak_r, az_r, ar_r, al_r, ai_r, pk_m1, reduceCtorEq, msk_tb, mskL, Bool.and_eq_true, decide_eq_true_eq, lg_0, lg_t, lg_g, lg_e, lg_l, tb_z, Nat.mod_eq_of_lt, lN_1s, and_ze, brT, brF, brN, vpT, a4095, a63, nI_e, nI_l', nI_t', dif_z, and_z, and_zr, lN_e, nI_clamp, nx_shr, Nat.reducePow, bI_0, bI_1, bI_z, bI_o, bI_or, n01, nI_add, pk_mul, nx_and, nx_or, nx_dif, lx_and, lx_or, lx_dif, Bool.not_eq_true, Bool.not_eq_false, Bool.true_eq_false, Bool.false_eq_true, ss_0 c.1, ss_19 c.1, ss_23 c.1, ss_27 c.1, ss_28 c.1, ss_31 c.1, ss_43 c.1, ss_45 c.1, ss_46 c.1, ss_49 c.1, c.f.2.1, c.f.1]
  refine And.intro (fun e => fin _ _ ?_ (FR.refl h _)) fun e => ?_
  · subst e
    exact ((msk_z _ _).mpr fun i _ => by rw [Nat.zero_testBit]; rfl).symm
  · refine TC_mono (d_152 c hH) ?_
    rintro q h2 ⟨rfl, f2, -⟩
    simp +contextual (disch := omega) only [K244, wx_t, wx_g, wJ_t, wJ_f, wI_s, CI, CL, C01, aftC_v, aftC_n, true_or, or_true, true_and, and_true, inS_n, inS_c, pI_c, pL_c, pA_c, pV_c, pE_c, pQ_s, pQ_n, pQ_r, cm_eq', cm_ne', cm_lt', cm_ge', cm_gt', cm_le', List.getD_cons_zero, List.getD_cons_succ, Nat.reduceAdd, Nat.reduceBEq, Bool.false_or, Bool.or_false, Bool.true_or, Int.reduceToNat, s_iload, s_lload, s_aload, s_istore, s_astore, s_lstore, s_iconst, s_sipush, s_aconst_null, s_iadd, s_isub, s_imul, s_iand, s_ior, s_ixor, s_idiv, s_irem, s_ishl, s_ishr, s_iushr, s_ladd, s_lsub, s_land, s_lor, s_lxor, s_lneg, s_lshl, s_lshr, s_lushr, s_i2l, s_l2i, s_lcmp, s_dup, s_pop, s_dup2, s_i2c, s_i2s, s_monitorenter, s_ifCond, s_if_icmp, s_ifnull, s_goto, s_iinc, s_tableswitch, s_ireturn, s_freturn, s_lreturn, s_areturn, s_return_, s_ldc, s_getfield, s_putfield, s_iaload, s_iastore, s_laload, s_lastore, s_baload, s_bastore, s_aaload, s_aastore, s_arraylength, s_newarray, s_anewarray, s_new, s_invokestatic, s_invokespecial, s_invokevirtual, fvl_0, fvl_1, fvl_2, fvl_3, fp_0, fp_1, fp_2, fp_3, rf_s, rf_n, isRf_b, knw_b, isLg_b, popA_0, popA_s, st1_0, st1_s, st2_e, set_0, set_s, aftC_e, hxP_s, hxP_n, iteF, iteT, bft, im_t, im_f, nt_f, nt_t, Nat.reduceDiv, Nat.reduceMod, Nat.reduceLeDiff, Nat.reduceLT, Nat.reduceEqDiff, List.length_cons, List.length_nil, Nat.zero_add, Nat.reduceSub, List.cons_append, List.nil_append, ak_i, az_i, ar_i, al_i, ai_i, ak_l, az_l, ar_l, al_l, ai_l, ak_r, az_r, ar_r, al_r, ai_r, pk_m1, reduceCtorEq, msk_tb, mskL, Bool.and_eq_true, decide_eq_true_eq, lg_0, lg_t, lg_g, lg_e, lg_l, tb_z, Nat.mod_eq_of_lt, lN_1s, and_ze, brT, brF, brN, vpT, a4095, a63, nI_e, nI_l', nI_t', dif_z, and_z, and_zr, lN_e, nI_clamp, nx_shr, Nat.reducePow, bI_0, bI_1, bI_z, bI_o, bI_or, n01, nI_add, pk_mul, nx_and, nx_or, nx_dif, lx_and, lx_or, lx_dif, Bool.not_eq_true, Bool.not_eq_false, Bool.true_eq_false, Bool.false_eq_true, bI_or]
    refine And.intro (fun e3 => ?_) fun e3 => ?_
    · exact lp 0 (by omega) e3 _ f2 _ _ msk_n0
    · refine fin _ _ ?_ f2
      refine eq_msk hx fun i hi => ?_
      rw [chd_all c.2.2 e3, Bool.and_true]
end CLS
