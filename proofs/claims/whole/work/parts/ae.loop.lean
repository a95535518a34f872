/-! THE LAW: THE LOOP -/
set_option maxRecDepth 40000 in
theorem KL : (cdo 277 13 = some (.iload 4) ∧ cdo 277 14 = some (.aload 0) ∧ cdo 277 15 = some .arraylength ∧ cdo 277 16 = some (.iconst 5) ∧ cdo 277 17 = some .isub ∧ cdo 277 18 = some (.if_icmp .gt 1231) ∧ cdo 277 19 = some (.aload 0) ∧ cdo 277 20 = some (.iload 4) ∧ cdo 277 21 = some .iaload ∧ cdo 277 22 = some (.iconst 63) ∧ cdo 277 23 = some .iand ∧ cdo 277 24 = some (.tableswitch 1229 0 33 #[25, 60, 115, 147, 179, 221, 294, 349, 391, 423, 488, 493, 518, 573, 618, 663, 718, 725, 732, 767, 774, 781, 816, 861, 906, 950, 985, 1020, 1027, 1034, 1079, 1124, 1159, 1194]) ∧ cdo 277 1229 = some (.iinc 4 5) ∧ cdo 277 1230 = some (.goto 13) ∧ cdo 277 1231 = some (.iconst 1) ∧ cdo 277 1232 = some .freturn ∧ True) := ⟨rfl, rfl, rfl, rfl, rfl, rfl, rfl, rfl, rfl, rfl, rfl, rfl, rfl, rfl, rfl, rfl, trivial⟩

theorem and63 (x : Int32) : ∃ j, j < 64 ∧ x &&& nI 63 = nI j := by
  refine ⟨(x &&& nI 63).toBitVec.toNat, ?_, ?_⟩
  · have e : (x &&& nI 63).toBitVec = x.toBitVec &&& 63#32 := rfl
    rw [e, BitVec.toNat_and]
    exact Nat.lt_of_le_of_lt Nat.and_le_right (by decide)
  · apply Int32.toBitVec_inj.mp
    show (x &&& nI 63).toBitVec = BitVec.ofNat 32 _
    exact (BitVec.ofNat_toNat 32 _ ▸ (BitVec.setWidth_eq _).symm)
theorem lt5 {L i : Nat} (hL : L ≤ 2560) (hi : i ≤ L) : (nI L - nI 5 < nI i) = (L < i + 5) := by
  have e : (nI L - nI 5).toInt = (L : Int) - 5 := by
    rw [Int32.toInt_sub, nI_toInt (by omega), nI_toInt (by omega)]
    exact Int.bmod_eq_of_le (by omega) (by omega)
  rw [Int32.lt_iff_toInt_lt, e, nI_toInt (by omega)]
  exact propext ⟨fun z => by omega, fun z => by omega⟩
section LOOP
variable {sc : (Nat → Int32) × Nat} {i : Nat} {h : AH} {Q : Rs → AH → Prop}
theorem lp (hL : sc.2 ≤ 2560) : ∀ (n i : Nat) (h : AH) (x5 x6 x7 : Value), sc.2 ≤ i + n → i ≤ sc.2 → INVA h → (∀ h2, ah_n h2 ≤ ah_n h + 17 * n → ah_u h2 ≤ ah_u h + 80 * n → Q (.inl (some (.int (nI 1)))) h2) → TT sc 60 277 Q 13 [scr, .ref 0, .ref 49, .ref 69, .int (nI i), x5, x6, x7] [] h
  | 0, i, h, x5, x6, x7, hn, hi, iv, hq => by
    have c : sc.2 < i + 5 := by omega
    refine wx_sound (S := []) 10 true _ _ _ _ ?_
    simp +contextual (disch := omega) only [KL, wx_t, wx_g, wJ_t, wJ_f, wI_s, CI, CL, C01, aftC_v, aftC_n, true_or, or_true, true_and, and_true, inS_n, inS_c, pI_c, pL_c, pA_c, pV_c, pE_c, pQ_s, pQ_n, pQ_r, cm_eq', cm_ne', cm_lt', cm_ge', cm_gt', cm_le', List.getD_cons_zero, List.getD_cons_succ, Nat.reduceAdd, Nat.reduceBEq, Bool.false_or, Bool.or_false, Bool.true_or, Int.reduceToNat, s_iload, s_lload, s_aload, s_istore, s_astore, s_lstore, s_iconst, s_sipush, s_aconst_null, s_iadd, s_isub, s_imul, s_iand, s_ior, s_ixor, s_idiv, s_irem, s_ishl, s_ishr, s_iushr, s_ladd, s_lsub, s_land, s_lor, s_lxor, s_lneg, s_lshl, s_lshr, s_lushr, s_i2l, s_l2i, s_lcmp, s_dup, s_pop, s_dup2, s_i2c, s_i2s, s_monitorenter, s_ifCond, s_if_icmp, s_ifnull, s_goto, s_iinc, s_tableswitch, s_ireturn, s_freturn, s_lreturn, s_areturn, s_return_, s_ldc, s_getfield, s_putfield, s_iaload, s_iastore, s_laload, s_lastore, s_baload, s_bastore, s_aaload, s_aastore, s_arraylength, s_newarray, s_anewarray, s_new, s_invokestatic, s_invokespecial, s_invokevirtual, fvl_0, fvl_1, fvl_2, fvl_3, fp_0, fp_1, fp_2, fp_3, rf_s, rf_n, isRf_b, knw_b, isLg_b, popA_0, popA_s, st1_0, st1_s, st2_e, set_0, set_s, aftC_e, hxP_s, hxP_n, iteF, iteT, bft, im_t, im_f, nt_f, nt_t, Nat.reduceDiv, Nat.reduceMod, Nat.reduceLeDiff, Nat.reduceLT, Nat.reduceEqDiff, List.length_cons, List.length_nil, Nat.zero_add, Nat.reduceSub, List.cons_append, List.nil_append, ak_i, az_i, ar_i, al_i, ai_i, ak_l, az_l, ar_l, al_l, ai_l, ak_r, az_r, ar_r, al_r, ai_r, pk_m1, reduceCtorEq, msk_tb, mskL, Bool.and_eq_true, decide_eq_true_eq, lg_0, lg_t, lg_g, lg_e, lg_l, tb_z, Nat.mod_eq_of_lt, lN_1s, and_ze, brT, brF, brN, vpT, a4095, a63, nI_e, nI_l', nI_t', dif_z, and_z, and_zr, lN_e, nI_clamp, nx_shr, Nat.reducePow, bI_0, bI_1, bI_z, bI_o, bI_or, n01, nI_add, pk_mul, nx_and, nx_or, nx_dif, lx_and, lx_or, lx_dif, Bool.not_eq_true, Bool.not_eq_false, Bool.true_eq_false, Bool.false_eq_true, scr, isRf_s, ofN, lt5 hL hi, c]
    exact hq h (by omega) (by omega)
  | n + 1, i, h, x5, x6, x7, hn, hi, iv, hq => by
    by_cases c : sc.2 < i + 5
    · refine wx_sound (S := []) 10 true _ _ _ _ ?_
      simp +contextual (disch := omega) only [KL, wx_t, wx_g, wJ_t, wJ_f, wI_s, CI, CL, C01, aftC_v, aftC_n, true_or, or_true, true_and, and_true, inS_n, inS_c, pI_c, pL_c, pA_c, pV_c, pE_c, pQ_s, pQ_n, pQ_r, cm_eq', cm_ne', cm_lt', cm_ge', cm_gt', cm_le', List.getD_cons_zero, List.getD_cons_succ, Nat.reduceAdd, Nat.reduceBEq, Bool.false_or, Bool.or_false, Bool.true_or, Int.reduceToNat, s_iload, s_lload, s_aload, s_istore, s_astore, s_lstore, s_iconst, s_sipush, s_aconst_null, s_iadd, s_isub, s_imul, s_iand, s_ior, s_ixor, s_idiv, s_irem, s_ishl, s_ishr, s_iushr, s_ladd, s_lsub, s_land, s_lor, s_lxor, s_lneg, s_lshl, s_lshr, s_lushr, s_i2l, s_l2i, s_lcmp, s_dup, s_pop, s_dup2, s_i2c, s_i2s, s_monitorenter, s_ifCond, s_if_icmp, s_ifnull, s_goto, s_iinc, s_tableswitch, s_ireturn, s_freturn, s_lreturn, s_areturn, s_return_, s_ldc, s_getfield, s_putfield, s_iaload, s_iastore, s_laload, s_lastore, s_baload, s_bastore, s_aaload, s_aastore, s_arraylength, s_newarray, s_anewarray, s_new, s_invokestatic, s_invokespecial, s_invokevirtual, fvl_0, fvl_1, fvl_2, fvl_3, fp_0, fp_1, fp_2, fp_3, rf_s, rf_n, isRf_b, knw_b, isLg_b, popA_0, popA_s, st1_0, st1_s, st2_e, set_0, set_s, aftC_e, hxP_s, hxP_n, iteF, iteT, bft, im_t, im_f, nt_f, nt_t, Nat.reduceDiv, Nat.reduceMod, Nat.reduceLeDiff, Nat.reduceLT, Nat.reduceEqDiff, List.length_cons, List.length_nil, Nat.zero_add, Nat.reduceSub, List.cons_append, List.nil_append, ak_i, az_i, ar_i, al_i, ai_i, ak_l, az_l, ar_l, al_l, ai_l, ak_r, az_r, ar_r, al_r, ai_r, pk_m1, reduceCtorEq, msk_tb, mskL, Bool.and_eq_true, decide_eq_true_eq, lg_0, lg_t, lg_g, lg_e, lg_l, tb_z, Nat.mod_eq_of_lt, lN_1s, and_ze, brT, brF, brN, vpT, a4095, a63, nI_e, nI_l', nI_t', dif_z, and_z, and_zr, lN_e, nI_clamp, nx_shr, Nat.reducePow, bI_0, bI_1, bI_z, bI_o, bI_or, n01, nI_add, pk_mul, nx_and, nx_or, nx_dif, lx_and, lx_or, lx_dif, Bool.not_eq_true, Bool.not_eq_false, Bool.true_eq_false, Bool.false_eq_true, scr, isRf_s, ofN, lt5 hL hi, c]
      exact hq h (by omega) (by omega)
    · have K : ∀ h2 y5 y6 y7, INVA h2 → GRO h h2 → TT sc 60 277 Q 1229 [scr, .ref 0, .ref 49, .ref 69, .int (nI i), y5, y6, y7] [] h2 := by
        intro h2 y5 y6 y7 iv2 gr
        refine wx_sound (S := [13]) 3 true _ _ _ _ ?_
        simp +contextual (disch := omega) only [KL, wx_t, wx_g, wJ_t, wJ_f, wI_s, CI, CL, C01, aftC_v, aftC_n, true_or, or_true, true_and, and_true, inS_n, inS_c, pI_c, pL_c, pA_c, pV_c, pE_c, pQ_s, pQ_n, pQ_r, cm_eq', cm_ne', cm_lt', cm_ge', cm_gt', cm_le', List.getD_cons_zero, List.getD_cons_succ, Nat.reduceAdd, Nat.reduceBEq, Bool.false_or, Bool.or_false, Bool.true_or, Int.reduceToNat, s_iload, s_lload, s_aload, s_istore, s_astore, s_lstore, s_iconst, s_sipush, s_aconst_null, s_iadd, s_isub, s_imul, s_iand, s_ior, s_ixor, s_idiv, s_irem, s_ishl, s_ishr, s_iushr, s_ladd, s_lsub, s_land, s_lor, s_lxor, s_lneg, s_lshl, s_lshr, s_lushr, s_i2l, s_l2i, s_lcmp, s_dup, s_pop, s_dup2, s_i2c, s_i2s, s_monitorenter, s_ifCond, s_if_icmp, s_ifnull, s_goto, s_iinc, s_tableswitch, s_ireturn, s_freturn, s_lreturn, s_areturn, s_return_, s_ldc, s_getfield, s_putfield, s_iaload, s_iastore, s_laload, s_lastore, s_baload, s_bastore, s_aaload, s_aastore, s_arraylength, s_newarray, s_anewarray, s_new, s_invokestatic, s_invokespecial, s_invokevirtual, fvl_0, fvl_1, fvl_2, fvl_3, fp_0, fp_1, fp_2, fp_3, rf_s, rf_n, isRf_b, knw_b, isLg_b, popA_0, popA_s, st1_0, st1_s, st2_e, set_0, set_s, aftC_e, hxP_s, hxP_n, iteF, iteT, bft, im_t, im_f, nt_f, nt_t, Nat.reduceDiv, Nat.reduceMod, Nat.reduceLeDiff, Nat.reduceLT, Nat.reduceEqDiff, List.length_cons, List.length_nil, Nat.zero_add, Nat.reduceSub, List.cons_append, List.nil_append, ak_i, az_i, ar_i, al_i, ai_i, ak_l, az_l, ar_l, al_l, ai_l, ak_r, az_r, ar_r, al_r, ai_r, pk_m1, reduceCtorEq, msk_tb, mskL, Bool.and_eq_true, decide_eq_true_eq, lg_0, lg_t, lg_g, lg_e, lg_l, tb_z, Nat.mod_eq_of_lt, lN_1s, and_ze, brT, brF, brN, vpT, a4095, a63, nI_e, nI_l', nI_t', dif_z, and_z, and_zr, lN_e, nI_clamp, nx_shr, Nat.reducePow, bI_0, bI_1, bI_z, bI_o, bI_or, n01, nI_add, pk_mul, nx_and, nx_or, nx_dif, lx_and, lx_or, lx_dif, Bool.not_eq_true, Bool.not_eq_false, Bool.true_eq_false, Bool.false_eq_true, scr, isRf_s]
        refine lp hL n (i + 5) h2 y5 y6 y7 (by omega) (by omega) iv2 fun h3 a b => hq h3 ?_ ?_
        · have := gr.1
          omega
        · have := gr.2
          omega
      obtain ⟨j, hj, ej⟩ := and63 (sc.1 i)
      refine wx_sound (S := []) 12 true _ _ _ _ ?_
      simp +contextual (disch := omega) only [KL, wx_t, wx_g, wJ_t, wJ_f, wI_s, CI, CL, C01, aftC_v, aftC_n, true_or, or_true, true_and, and_true, inS_n, inS_c, pI_c, pL_c, pA_c, pV_c, pE_c, pQ_s, pQ_n, pQ_r, cm_eq', cm_ne', cm_lt', cm_ge', cm_gt', cm_le', List.getD_cons_zero, List.getD_cons_succ, Nat.reduceAdd, Nat.reduceBEq, Bool.false_or, Bool.or_false, Bool.true_or, Int.reduceToNat, s_iload, s_lload, s_aload, s_istore, s_astore, s_lstore, s_iconst, s_sipush, s_aconst_null, s_iadd, s_isub, s_imul, s_iand, s_ior, s_ixor, s_idiv, s_irem, s_ishl, s_ishr, s_iushr, s_ladd, s_lsub, s_land, s_lor, s_lxor, s_lneg, s_lshl, s_lshr, s_lushr, s_i2l, s_l2i, s_lcmp, s_dup, s_pop, s_dup2, s_i2c, s_i2s, s_monitorenter, s_ifCond, s_if_icmp, s_ifnull, s_goto, s_iinc, s_tableswitch, s_ireturn, s_freturn, s_lreturn, s_areturn, s_return_, s_ldc, s_getfield, s_putfield, s_iaload, s_iastore, s_laload, s_lastore, s_baload, s_bastore, s_aaload, s_aastore, s_arraylength, s_newarray, s_anewarray, s_new, s_invokestatic, s_invokespecial, s_invokevirtual, fvl_0, fvl_1, fvl_2, fvl_3, fp_0, fp_1, fp_2, fp_3, rf_s, rf_n, isRf_b, knw_b, isLg_b, popA_0, popA_s, st1_0, st1_s, st2_e, set_0, set_s, aftC_e, hxP_s, hxP_n, iteF, iteT, bft, im_t, im_f, nt_f, nt_t, Nat.reduceDiv, Nat.reduceMod, Nat.reduceLeDiff, Nat.reduceLT, Nat.reduceEqDiff, List.length_cons, List.length_nil, Nat.zero_add, Nat.reduceSub, List.cons_append, List.nil_append, ak_i, az_i, ar_i, al_i, ai_i, ak_l, az_l, ar_l, al_l, ai_l, ak_r, az_r, ar_r, al_r, ai_r, pk_m1, reduceCtorEq, msk_tb, mskL, Bool.and_eq_true, decide_eq_true_eq, lg_0, lg_t, lg_g, lg_e, lg_l, tb_z, Nat.mod_eq_of_lt, lN_1s, and_ze, brT, brF, brN, vpT, a4095, a63, nI_e, nI_l', nI_t', dif_z, and_z, and_zr, lN_e, nI_clamp, nx_shr, Nat.reducePow, bI_0, bI_1, bI_z, bI_o, bI_or, n01, nI_add, pk_mul, nx_and, nx_or, nx_dif, lx_and, lx_or, lx_dif, Bool.not_eq_true, Bool.not_eq_false, Bool.true_eq_false, Bool.false_eq_true, scr, isRf_s, ofN, lt5 hL hi, c, ej]
      refine ⟨fun z => K h x5 x6 x7 iv ⟨by omega, by omega⟩, fun z1 z2 => ?_⟩
      have h5 : i + 5 ≤ sc.2 := by omega
      have j34 : j < 34 := by
        rw [nI_toInt (by omega)] at z2
        omega
      match j, j34 with
      | 0, _ => exact ⟨25, rfl, lw_0 iv h5 hL K x5 x6 x7⟩
      | 1, _ => exact ⟨60, rfl, lw_1 iv h5 hL K x5 x6 x7⟩
      | 2, _ => exact ⟨115, rfl, lw_2 iv h5 hL K x5 x6 x7⟩
      | 3, _ => exact ⟨147, rfl, lw_3 iv h5 hL K x5 x6 x7⟩
      | 4, _ => exact ⟨179, rfl, lw_4 iv h5 hL K x5 x6 x7⟩
      | 5, _ => exact ⟨221, rfl, lw_5 iv h5 hL K x5 x6 x7⟩
      | 6, _ => exact ⟨294, rfl, lw_6 iv h5 hL K x5 x6 x7⟩
      | 7, _ => exact ⟨349, rfl, lw_7 iv h5 hL K x5 x6 x7⟩
      | 8, _ => exact ⟨391, rfl, lw_8 iv h5 hL K x5 x6 x7⟩
      | 9, _ => exact ⟨423, rfl, lw_9 iv h5 hL K x5 x6 x7⟩
      | 10, _ => exact ⟨488, rfl, lw_10 iv h5 hL K x5 x6 x7⟩
      | 11, _ => exact ⟨493, rfl, lw_11 iv h5 hL K x5 x6 x7⟩
      | 12, _ => exact ⟨518, rfl, lw_12 iv h5 hL K x5 x6 x7⟩
      | 13, _ => exact ⟨573, rfl, lw_13 iv h5 hL K x5 x6 x7⟩
      | 14, _ => exact ⟨618, rfl, lw_14 iv h5 hL K x5 x6 x7⟩
      | 15, _ => exact ⟨663, rfl, lw_15 iv h5 hL K x5 x6 x7⟩
      | 16, _ => exact ⟨718, rfl, lw_16 iv h5 hL K x5 x6 x7⟩
      | 17, _ => exact ⟨725, rfl, lw_17 iv h5 hL K x5 x6 x7⟩
      | 18, _ => exact ⟨732, rfl, lw_18 iv h5 hL K x5 x6 x7⟩
      | 19, _ => exact ⟨767, rfl, lw_19 iv h5 hL K x5 x6 x7⟩
      | 20, _ => exact ⟨774, rfl, lw_20 iv h5 hL K x5 x6 x7⟩
      | 21, _ => exact ⟨781, rfl, lw_21 iv h5 hL K x5 x6 x7⟩
      | 22, _ => exact ⟨816, rfl, lw_22 iv h5 hL K x5 x6 x7⟩
      | 23, _ => exact ⟨861, rfl, lw_23 iv h5 hL K x5 x6 x7⟩
      | 24, _ => exact ⟨906, rfl, lw_24 iv h5 hL K x5 x6 x7⟩
      | 25, _ => exact ⟨950, rfl, lw_25 iv h5 hL K x5 x6 x7⟩
      | 26, _ => exact ⟨985, rfl, lw_26 iv h5 hL K x5 x6 x7⟩
      | 27, _ => exact ⟨1020, rfl, lw_27 iv h5 hL K x5 x6 x7⟩
      | 28, _ => exact ⟨1027, rfl, lw_28 iv h5 hL K x5 x6 x7⟩
      | 29, _ => exact ⟨1034, rfl, lw_29 iv h5 hL K x5 x6 x7⟩
      | 30, _ => exact ⟨1079, rfl, lw_30 iv h5 hL K x5 x6 x7⟩
      | 31, _ => exact ⟨1124, rfl, lw_31 iv h5 hL K x5 x6 x7⟩
      | 32, _ => exact ⟨1159, rfl, lw_32 iv h5 hL K x5 x6 x7⟩
      | 33, _ => exact ⟨1194, rfl, lw_33 iv h5 hL K x5 x6 x7⟩
      | j + 34, z => omega
end LOOP
