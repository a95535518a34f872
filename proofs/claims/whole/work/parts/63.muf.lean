/-! THE REFERENCE: UNFOUNDED, INSTANCES -/
def ufb (P : PG) (T F p s : Nat) : Bool := decide ((T ||| F) &&& p = 0) && decide (∀ i, i < P_m P → fou P i p s = false)
section MDL
variable {sc : (Nat → Int32) × Nat} {d : Nat} {h : AH} {Q : Rs → AH → Prop} {P : PG} {A T F : Nat}
theorem m_148 (q0 : MQS h P A T F) {p s : Nat} (hp : p < 4096) (hs : s < 2 ^ P_n P) : TC sc (d + 2) 148 [.ref 49, .int (nI p), .int (nI s)] h Q ↔ Q (.inl (some (.int (bI (ufb P T F p s))))) h := TC_of (fun Q hq => by
  have c := q0.1
  have n12 := c.n
  have m60 := c.m
  have pn := c.pn
  have tz : (nI (p &&& (T ||| F)) = nI 0) = ((T ||| F) &&& p = 0) := pv_z (by omega)
  have lp : (T ||| F) &&& p = 0 → ∀ k, k ≤ P_m P → (∀ i, i < k → fou P i p s = false) → ∀ x, TT sc (d + 1) 148 Q 12 [.ref 49, .int (nI p), .int (nI s), .int (nI k), x] [] h := by
    intro e0
    refine up_to fun k hk ih => ?_
    intro H x
    by_cases e : k < P_m P
    · have hd := c.hd e
      have nd := c.nd e
      have z1 := and_z (a := P_hd P k) (b := p) (by omega)
      have z2 : (nI (dif (P_hd P k &&& s) p) = nI 0) = (dif (P_hd P k &&& s) p = 0) := dif_z (Nat.lt_of_le_of_lt Nat.and_le_left (by omega))
      have z3 := and_z (a := P_nd P k) (b := p) (by omega)
      have kd := c.kd e
      have ek : (nI (P_kd P k) = nI 1) = (P_kd P k = 1) := nI_e (by omega) (by omega)
      have nx : fou P k p s = false → ∀ x, TT sc (d + 1) 148 Q 12 [.ref 49, .int (nI p), .int (nI s), .int (nI (k + 1)), x] [] h := fun n => ih e fun i hi => by
        rcases Nat.lt_or_ge i k with z | z
        · exact H i z
        · have : i = k := by omega
          rw [this]; exact n
      have bad : fou P k p s = true → Q (.inl (some (.int (nI 0)))) h := fun n => lf0 hq (by
        unfold ufb
        rw [decide_eq_false (p := ∀ i, i < P_m P → fou P i p s = false) (fun z => by rw [z k e] at n; cases n), Bool.and_false])
      cases e3 : holds P k s
      · refine wx_sound (S := [12, 48]) 40 true _ _ _ _ ?_
        simp +contextual (disch := omega) only [K148, wx_t, wx_g, wJ_t, wJ_f, wI_s, CI, CL, C01, aftC_v, aftC_n, true_or, or_true, true_and, and_true, inS_n, inS_c, pI_c, pL_c, pA_c, pV_c, pE_c, pQ_s, pQ_n, pQ_r, cm_eq', cm_ne', cm_lt', cm_ge', cm_gt', cm_le', List.getD_cons_zero, List.getD_cons_succ, Nat.reduceAdd, Nat.reduceBEq, Bool.false_or, Bool.or_false, Bool.true_or, Int.reduceToNat, s_iload, s_lload, s_aload, s_istore, s_astore, s_lstore, s_iconst, s_sipush, s_aconst_null, s_iadd, s_isub, s_imul, s_iand, s_ior, s_ixor, s_idiv, s_irem, s_ishl, s_ishr, s_iushr, s_ladd, s_lsub, s_land, s_lor, s_lxor, s_lneg, s_lshl, s_lshr, s_lushr, s_i2l, s_l2i, s_lcmp, s_dup, s_pop, s_dup2, s_i2c, s_i2s, s_monitorenter, s_ifCond, s_if_icmp, s_ifnull, s_goto, s_iinc, s_tableswitch, s_ireturn, s_freturn, s_lreturn, s_areturn, s_return_, s_ldc, s_getfield, s_putfield, s_iaload, s_iastore, s_laload, s_lastore, s_baload, s_bastore, s_aaload, s_aastore, s_arraylength, s_newarray, s_anewarray, s_new, s_invokestatic, s_invokespecial, s_invokevirtual, fvl_0, fvl_1, fvl_2, fvl_3, fp_0, fp_1, fp_2, fp_3, rf_s, rf_n, isRf_b, knw_b, isLg_b, popA_0, popA_s, st1_0, st1_s, st2_e, set_0, set_s, aftC_e, hxP_s, hxP_n, iteF, iteT, bft, im_t, im_f, nt_f, nt_t, Nat.reduceDiv, Nat.reduceMod, Nat.reduceLeDiff, Nat.reduceLT, Nat.reduceEqDiff, List.length_cons, List.length_nil, Nat.zero_add, Nat.reduceSub, List.cons_append, List.nil_append, ak_i, az_i, ar_i, al_i, ai_i, ak_l, az_l, ar_l, al_l, ai_l, ak_r, az_r, ar_r, al_r, ai_r, pk_m1, reduceCtorEq, msk_tb, mskL, Bool.and_eq_true, decide_eq_true_eq, lg_0, lg_t, lg_g, lg_e, lg_l, tb_z, Nat.mod_eq_of_lt, lN_1s, and_ze, brT, brF, brN, vpT, a4095, a63, nI_e, nI_l', nI_t', dif_z, and_z, and_zr, lN_e, nI_clamp, nx_shr, Nat.reducePow, bI_0, bI_1, bI_z, bI_o, bI_or, n01, nI_add, pk_mul, nx_and, nx_or, nx_dif, lx_and, lx_or, lx_dif, Bool.not_eq_true, Bool.not_eq_false, Bool.true_eq_false, Bool.false_eq_true, ss_49 c.1, c.f.2, (c.i e).2.1, m_116 c e hs, e3, z1]
        exact And.intro (fun _ => nx (by unfold fou; simp [e3]) _) fun _ => nx (by unfold fou; simp [e3]) _
      · have mid : P_hd P k &&& p ≠ 0 → ∀ b : Bool, b = !(decide (P_kd P k = 1) || decide (dif (P_hd P k &&& s) p = 0)) → TT sc (d + 1) 148 Q 48 [.ref 49, .int (nI p), .int (nI s), .int (nI k), .int (bI b)] [] h := fun h1 b hb => by
          have fe : fou P k p s = (decide (P_nd P k &&& p = 0) && !b) := by
            rw [hb]; unfold fou; simp [h1, e3]
          refine wx_sound (S := [12, 48]) 40 true _ _ _ _ ?_
          simp +contextual (disch := omega) only [K148, wx_t, wx_g, wJ_t, wJ_f, wI_s, CI, CL, C01, aftC_v, aftC_n, true_or, or_true, true_and, and_true, inS_n, inS_c, pI_c, pL_c, pA_c, pV_c, pE_c, pQ_s, pQ_n, pQ_r, cm_eq', cm_ne', cm_lt', cm_ge', cm_gt', cm_le', List.getD_cons_zero, List.getD_cons_succ, Nat.reduceAdd, Nat.reduceBEq, Bool.false_or, Bool.or_false, Bool.true_or, Int.reduceToNat, s_iload, s_lload, s_aload, s_istore, s_astore, s_lstore, s_iconst, s_sipush, s_aconst_null, s_iadd, s_isub, s_imul, s_iand, s_ior, s_ixor, s_idiv, s_irem, s_ishl, s_ishr, s_iushr, s_ladd, s_lsub, s_land, s_lor, s_lxor, s_lneg, s_lshl, s_lshr, s_lushr, s_i2l, s_l2i, s_lcmp, s_dup, s_pop, s_dup2, s_i2c, s_i2s, s_monitorenter, s_ifCond, s_if_icmp, s_ifnull, s_goto, s_iinc, s_tableswitch, s_ireturn, s_freturn, s_lreturn, s_areturn, s_return_, s_ldc, s_getfield, s_putfield, s_iaload, s_iastore, s_laload, s_lastore, s_baload, s_bastore, s_aaload, s_aastore, s_arraylength, s_newarray, s_anewarray, s_new, s_invokestatic, s_invokespecial, s_invokevirtual, fvl_0, fvl_1, fvl_2, fvl_3, fp_0, fp_1, fp_2, fp_3, rf_s, rf_n, isRf_b, knw_b, isLg_b, popA_0, popA_s, st1_0, st1_s, st2_e, set_0, set_s, aftC_e, hxP_s, hxP_n, iteF, iteT, bft, im_t, im_f, nt_f, nt_t, Nat.reduceDiv, Nat.reduceMod, Nat.reduceLeDiff, Nat.reduceLT, Nat.reduceEqDiff, List.length_cons, List.length_nil, Nat.zero_add, Nat.reduceSub, List.cons_append, List.nil_append, ak_i, az_i, ar_i, al_i, ai_i, ak_l, az_l, ar_l, al_l, ai_l, ak_r, az_r, ar_r, al_r, ai_r, pk_m1, reduceCtorEq, msk_tb, mskL, Bool.and_eq_true, decide_eq_true_eq, lg_0, lg_t, lg_g, lg_e, lg_l, tb_z, Nat.mod_eq_of_lt, lN_1s, and_ze, brT, brF, brN, vpT, a4095, a63, nI_e, nI_l', nI_t', dif_z, and_z, and_zr, lN_e, nI_clamp, nx_shr, Nat.reducePow, bI_0, bI_1, bI_z, bI_o, bI_or, n01, nI_add, pk_mul, nx_and, nx_or, nx_dif, lx_and, lx_or, lx_dif, Bool.not_eq_true, Bool.not_eq_false, Bool.true_eq_false, Bool.false_eq_true, ss_49 c.1, (c.i e).2.2.1, z3]
          refine And.intro (fun e5 => And.intro (fun e6 => bad (by rw [fe, e5, e6]; rfl)) fun e6 => nx (by rw [fe, e6]; simp) _) fun e5 => nx (by rw [fe]; simp [e5]) _
        by_cases e4 : P_kd P k = 1
        · refine wx_sound (S := [12, 48]) 60 true _ _ _ _ ?_
          simp +contextual (disch := omega) only [K148, wx_t, wx_g, wJ_t, wJ_f, wI_s, CI, CL, C01, aftC_v, aftC_n, true_or, or_true, true_and, and_true, inS_n, inS_c, pI_c, pL_c, pA_c, pV_c, pE_c, pQ_s, pQ_n, pQ_r, cm_eq', cm_ne', cm_lt', cm_ge', cm_gt', cm_le', List.getD_cons_zero, List.getD_cons_succ, Nat.reduceAdd, Nat.reduceBEq, Bool.false_or, Bool.or_false, Bool.true_or, Int.reduceToNat, s_iload, s_lload, s_aload, s_istore, s_astore, s_lstore, s_iconst, s_sipush, s_aconst_null, s_iadd, s_isub, s_imul, s_iand, s_ior, s_ixor, s_idiv, s_irem, s_ishl, s_ishr, s_iushr, s_ladd, s_lsub, s_land, s_lor, s_lxor, s_lneg, s_lshl, s_lshr, s_lushr, s_i2l, s_l2i, s_lcmp, s_dup, s_pop, s_dup2, s_i2c, s_i2s, s_monitorenter, s_ifCond, s_if_icmp, s_ifnull, s_goto, s_iinc, s_tableswitch, s_ireturn, s_freturn, s_lreturn, s_areturn, s_return_, s_ldc, s_getfield, s_putfield, s_iaload, s_iastore, s_laload, s_lastore, s_baload, s_bastore, s_aaload, s_aastore, s_arraylength, s_newarray, s_anewarray, s_new, s_invokestatic, s_invokespecial, s_invokevirtual, fvl_0, fvl_1, fvl_2, fvl_3, fp_0, fp_1, fp_2, fp_3, rf_s, rf_n, isRf_b, knw_b, isLg_b, popA_0, popA_s, st1_0, st1_s, st2_e, set_0, set_s, aftC_e, hxP_s, hxP_n, iteF, iteT, bft, im_t, im_f, nt_f, nt_t, Nat.reduceDiv, Nat.reduceMod, Nat.reduceLeDiff, Nat.reduceLT, Nat.reduceEqDiff, List.length_cons, List.length_nil, Nat.zero_add, Nat.reduceSub, List.cons_append, List.nil_append, ak_i, az_i, ar_i, al_i, ai_i, ak_l, az_l, ar_l, al_l, ai_l, ak_r, az_r, ar_r, al_r, ai_r, pk_m1, reduceCtorEq, msk_tb, mskL, Bool.and_eq_true, decide_eq_true_eq, lg_0, lg_t, lg_g, lg_e, lg_l, tb_z, Nat.mod_eq_of_lt, lN_1s, and_ze, brT, brF, brN, vpT, a4095, a63, nI_e, nI_l', nI_t', dif_z, and_z, and_zr, lN_e, nI_clamp, nx_shr, Nat.reducePow, bI_0, bI_1, bI_z, bI_o, bI_or, n01, nI_add, pk_mul, nx_and, nx_or, nx_dif, lx_and, lx_or, lx_dif, Bool.not_eq_true, Bool.not_eq_false, Bool.true_eq_false, Bool.false_eq_true, ss_49 c.1, c.f.2, (c.i e).2.1, m_116 c e hs, m_114 c e, e3, e4, z1]
          exact And.intro (fun e5 => nx (by unfold fou; simp [e5]) _) fun e5 => mid e5 false (by simp [e4])
        · refine wx_sound (S := [12, 48]) 60 true _ _ _ _ ?_
          simp +contextual (disch := omega) only [K148, wx_t, wx_g, wJ_t, wJ_f, wI_s, CI, CL, C01, aftC_v, aftC_n, true_or, or_true, true_and, and_true, inS_n, inS_c, pI_c, pL_c, pA_c, pV_c, pE_c, pQ_s, pQ_n, pQ_r, cm_eq', cm_ne', cm_lt', cm_ge', cm_gt', cm_le', List.getD_cons_zero, List.getD_cons_succ, Nat.reduceAdd, Nat.reduceBEq, Bool.false_or, Bool.or_false, Bool.true_or, Int.reduceToNat, s_iload, s_lload, s_aload, s_istore, s_astore, s_lstore, s_iconst, s_sipush, s_aconst_null, s_iadd, s_isub, s_imul, s_iand, s_ior, s_ixor, s_idiv, s_irem, s_ishl, s_ishr, s_iushr, s_ladd, s_lsub, s_land, s_lor, s_lxor, s_lneg, s_lshl, s_lshr, s_lushr, s_i2l, s_l2i, s_lcmp, s_dup, s_pop, s_dup2, s_i2c, s_i2s, s_monitorenter, s_ifCond, s_if_icmp, s_ifnull, s_goto, s_iinc, s_tableswitch, s_ireturn, s_freturn, s_lreturn, s_areturn, s_return_, s_ldc, s_getfield, s_putfield, s_iaload, s_iastore, s_laload, s_lastore, s_baload, s_bastore, s_aaload, s_aastore, s_arraylength, s_newarray, s_anewarray, s_new, s_invokestatic, s_invokespecial, s_invokevirtual, fvl_0, fvl_1, fvl_2, fvl_3, fp_0, fp_1, fp_2, fp_3, rf_s, rf_n, isRf_b, knw_b, isLg_b, popA_0, popA_s, st1_0, st1_s, st2_e, set_0, set_s, aftC_e, hxP_s, hxP_n, iteF, iteT, bft, im_t, im_f, nt_f, nt_t, Nat.reduceDiv, Nat.reduceMod, Nat.reduceLeDiff, Nat.reduceLT, Nat.reduceEqDiff, List.length_cons, List.length_nil, Nat.zero_add, Nat.reduceSub, List.cons_append, List.nil_append, ak_i, az_i, ar_i, al_i, ai_i, ak_l, az_l, ar_l, al_l, ai_l, ak_r, az_r, ar_r, al_r, ai_r, pk_m1, reduceCtorEq, msk_tb, mskL, Bool.and_eq_true, decide_eq_true_eq, lg_0, lg_t, lg_g, lg_e, lg_l, tb_z, Nat.mod_eq_of_lt, lN_1s, and_ze, brT, brF, brN, vpT, a4095, a63, nI_e, nI_l', nI_t', dif_z, and_z, and_zr, lN_e, nI_clamp, nx_shr, Nat.reducePow, bI_0, bI_1, bI_z, bI_o, bI_or, n01, nI_add, pk_mul, nx_and, nx_or, nx_dif, lx_and, lx_or, lx_dif, Bool.not_eq_true, Bool.not_eq_false, Bool.true_eq_false, Bool.false_eq_true, ss_49 c.1, c.f.2, (c.i e).2.1, m_116 c e hs, m_114 c e, e3, ek, e4, z1, z2]
          exact And.intro (fun e5 => nx (by unfold fou; simp [e5]) _) fun e5 => And.intro (fun e6 => mid e5 false (by simp [e6])) fun e6 => mid e5 true (by simp [e4, e6])
    · have : k = P_m P := by omega
      subst this
      refine wx_sound (S := [12, 48]) 60 true _ _ _ _ ?_
      simp +contextual (disch := omega) only [K148, wx_t, wx_g, wJ_t, wJ_f, wI_s, CI, CL, C01, aftC_v, aftC_n, true_or, or_true, true_and, and_true, inS_n, inS_c, pI_c, pL_c, pA_c, pV_c, pE_c, pQ_s, pQ_n, pQ_r, cm_eq', cm_ne', cm_lt', cm_ge', cm_gt', cm_le', List.getD_cons_zero, List.getD_cons_succ, Nat.reduceAdd, Nat.reduceBEq, Bool.false_or, Bool.or_false, Bool.true_or, Int.reduceToNat, s_iload, s_lload, s_aload, s_istore, s_astore, s_lstore, s_iconst, s_sipush, s_aconst_null, s_iadd, s_isub, s_imul, s_iand, s_ior, s_ixor, s_idiv, s_irem, s_ishl, s_ishr, s_iushr, s_ladd, s_lsub, s_land, s_lor, s_lxor, s_lneg, s_lshl, s_lshr, s_lushr, s_i2l, s_l2i, s_lcmp, s_dup, s_pop, s_dup2, s_i2c, s_i2s, s_monitorenter, s_ifCond, s_if_icmp, s_ifnull, s_goto, s_iinc, s_tableswitch, s_ireturn, s_freturn, s_lreturn, s_areturn, s_return_, s_ldc, s_getfield, s_putfield, s_iaload, s_iastore, s_laload, s_lastore, s_baload, s_bastore, s_aaload, s_aastore, s_arraylength, s_newarray, s_anewarray, s_new, s_invokestatic, s_invokespecial, s_invokevirtual, fvl_0, fvl_1, fvl_2, fvl_3, fp_0, fp_1, fp_2, fp_3, rf_s, rf_n, isRf_b, knw_b, isLg_b, popA_0, popA_s, st1_0, st1_s, st2_e, set_0, set_s, aftC_e, hxP_s, hxP_n, iteF, iteT, bft, im_t, im_f, nt_f, nt_t, Nat.reduceDiv, Nat.reduceMod, Nat.reduceLeDiff, Nat.reduceLT, Nat.reduceEqDiff, List.length_cons, List.length_nil, Nat.zero_add, Nat.reduceSub, List.cons_append, List.nil_append, ak_i, az_i, ar_i, al_i, ai_i, ak_l, az_l, ar_l, al_l, ai_l, ak_r, az_r, ar_r, al_r, ai_r, pk_m1, reduceCtorEq, msk_tb, mskL, Bool.and_eq_true, decide_eq_true_eq, lg_0, lg_t, lg_g, lg_e, lg_l, tb_z, Nat.mod_eq_of_lt, lN_1s, and_ze, brT, brF, brN, vpT, a4095, a63, nI_e, nI_l', nI_t', dif_z, and_z, and_zr, lN_e, nI_clamp, nx_shr, Nat.reducePow, bI_0, bI_1, bI_z, bI_o, bI_or, n01, nI_add, pk_mul, nx_and, nx_or, nx_dif, lx_and, lx_or, lx_dif, Bool.not_eq_true, Bool.not_eq_false, Bool.true_eq_false, Bool.false_eq_true, ss_49 c.1, c.f.2]
      exact lf1 hq (by unfold ufb; rw [decide_eq_true e0, decide_eq_true H]; rfl)
  refine TC_e (ls := [.ref 49, .int (nI p), .int (nI s), unk, unk]) (Nat.le_of_ble_eq_true rfl) rfl (wx_sound (S := [12]) 60 true _ _ _ _ ?_)
  simp +contextual (disch := omega) only [K148, wx_t, wx_g, wJ_t, wJ_f, wI_s, CI, CL, C01, aftC_v, aftC_n, true_or, or_true, true_and, and_true, inS_n, inS_c, pI_c, pL_c, pA_c, pV_c, pE_c, pQ_s, pQ_n, pQ_r, cm_eq', cm_ne', cm_lt', cm_ge', cm_gt', cm_le', List.getD_cons_zero, List.getD_cons_succ, Nat.reduceAdd, Nat.reduceBEq, Bool.false_or, Bool.or_false, Bool.true_or, Int.reduceToNat, s_iload, s_lload, s_aload, s_istore, s_astore, s_lstore, s_iconst, s_sipush, s_aconst_null, s_iadd, s_isub, s_imul, s_iand, s_ior, s_ixor, s_idiv, s_irem, s_ishl, s_ishr, s_iushr, s_ladd, s_lsub, s_land, s_lor, s_lxor, s_lneg, s_lshl, s_lshr, s_lushr, s_i2l, s_l2i, s_lcmp, s_dup, s_pop, s_dup2, s_i2c, s_i2s, s_monitorenter, s_ifCond, s_if_icmp, s_ifnull, s_goto, s_iinc, s_tableswitch, s_ireturn, s_freturn, s_lreturn, s_areturn, s_return_, s_ldc, s_getfield, s_putfield, s_iaload, s_iastore, s_laload, s_lastore, s_baload, s_bastore, s_aaload, s_aastore, s_arraylength, s_newarray, s_anewarray, s_new, s_invokestatic, s_invokespecial, s_invokevirtual, fvl_0, fvl_1, fvl_2, fvl_3, fp_0, fp_1, fp_2, fp_3, rf_s, rf_n, isRf_b, knw_b, isLg_b, popA_0, popA_s, st1_0, st1_s, st2_e, set_0, set_s, aftC_e, hxP_s, hxP_n, iteF, iteT, bft, im_t, im_f, nt_f, nt_t, Nat.reduceDiv, Nat.reduceMod, Nat.reduceLeDiff, Nat.reduceLT, Nat.reduceEqDiff, List.length_cons, List.length_nil, Nat.zero_add, Nat.reduceSub, List.cons_append, List.nil_append, ak_i, az_i, ar_i, al_i, ai_i, ak_l, az_l, ar_l, al_l, ai_l, ak_r, az_r, ar_r, al_r, ai_r, pk_m1, reduceCtorEq, msk_tb, mskL, Bool.and_eq_true, decide_eq_true_eq, lg_0, lg_t, lg_g, lg_e, lg_l, tb_z, Nat.mod_eq_of_lt, lN_1s, and_ze, brT, brF, brN, vpT, a4095, a63, nI_e, nI_l', nI_t', dif_z, and_z, and_zr, lN_e, nI_clamp, nx_shr, Nat.reducePow, bI_0, bI_1, bI_z, bI_o, bI_or, n01, nI_add, pk_mul, nx_and, nx_or, nx_dif, lx_and, lx_or, lx_dif, Bool.not_eq_true, Bool.not_eq_false, Bool.true_eq_false, Bool.false_eq_true, ss_49 c.1, m_118 c q0.2.1 q0.2.2.1, m_119 c q0.2.1 q0.2.2.2.1, nx_or, nx_and, tz]
  exact And.intro (fun e0 => lp e0 0 (Nat.zero_le _) (fun i hi => absurd hi (by omega)) _) fun e0 => lf0 hq (by unfold ufb; simp [e0])) Q
theorem m_149 (q0 : MQS h P A T F) {p : Nat} (hpp : p < 2 ^ P_n P) : TC sc (d + 7) 149 [.ref 49, .int (nI p)] h fun q h' => q = .inl (some (.int (nI (orU (unf P T F p) (2 ^ P_n P))))) ∧ RM h P A T F 0 h' := by
  have pn := q0.1.pn
  generalize hQ : (fun (q : Rs) (h' : AH) => q = .inl (some (.int (nI (orU (unf P T F p) (2 ^ P_n P))))) ∧ RM h P A T F 0 h') = Q
  have r0 : RM h P A T F 0 (ap_i h 49 0 (nI 0)) := RM.no q0
  have pl : p < 2 ^ 12 := by omega
  have ul : ∀ u, u &&& p = u → u < 2 ^ P_n P := fun u hu => Nat.lt_of_le_of_lt (hu ▸ Nat.and_le_right) hpp
  have uf : ∀ u, u &&& p = u → unf P T F p u = ufb P T F u p := fun u hu => by
    have : dif u p = 0 := and_dif.mp (by rw [Nat.and_comm]; exact hu)
    unfold unf ufb
    rw [decide_eq_true this, Bool.true_and]
  refine TC_e (ls := [.ref 49, .int (nI p), unk, unk]) (Nat.le_of_ble_eq_true rfl) rfl (wx_sound (S := [16]) 60 true _ _ _ _ ?_)
  simp +contextual (disch := omega) only [K149, wx_t, wx_g, wJ_t, wJ_f, wI_s, CI, CL, C01, aftC_v, aftC_n, true_or, or_true, true_and, and_true, inS_n, inS_c, pI_c, pL_c, pA_c, pV_c, pE_c, pQ_s, pQ_n, pQ_r, cm_eq', cm_ne', cm_lt', cm_ge', cm_gt', cm_le', List.getD_cons_zero, List.getD_cons_succ, Nat.reduceAdd, Nat.reduceBEq, Bool.false_or, Bool.or_false, Bool.true_or, Int.reduceToNat, s_iload, s_lload, s_aload, s_istore, s_astore, s_lstore, s_iconst, s_sipush, s_aconst_null, s_iadd, s_isub, s_imul, s_iand, s_ior, s_ixor, s_idiv, s_irem, s_ishl, s_ishr, s_iushr, s_ladd, s_lsub, s_land, s_lor, s_lxor, s_lneg, s_lshl, s_lshr, s_lushr, s_i2l, s_l2i, s_lcmp, s_dup, s_pop, s_dup2, s_i2c, s_i2s, s_monitorenter, s_ifCond, s_if_icmp, s_ifnull, s_goto, s_iinc, s_tableswitch, s_ireturn, s_freturn, s_lreturn, s_areturn, s_return_, s_ldc, s_getfield, s_putfield, s_iaload, s_iastore, s_laload, s_lastore, s_baload, s_bastore, s_aaload, s_aastore, s_arraylength, s_newarray, s_anewarray, s_new, s_invokestatic, s_invokespecial, s_invokevirtual, fvl_0, fvl_1, fvl_2, fvl_3, fp_0, fp_1, fp_2, fp_3, rf_s, rf_n, isRf_b, knw_b, isLg_b, popA_0, popA_s, st1_0, st1_s, st2_e, set_0, set_s, aftC_e, hxP_s, hxP_n, iteF, iteT, bft, im_t, im_f, nt_f, nt_t, Nat.reduceDiv, Nat.reduceMod, Nat.reduceLeDiff, Nat.reduceLT, Nat.reduceEqDiff, List.length_cons, List.length_nil, Nat.zero_add, Nat.reduceSub, List.cons_append, List.nil_append, ak_i, az_i, ar_i, al_i, ai_i, ak_l, az_l, ar_l, al_l, ai_l, ak_r, az_r, ar_r, al_r, ai_r, pk_m1, reduceCtorEq, msk_tb, mskL, Bool.and_eq_true, decide_eq_true_eq, lg_0, lg_t, lg_g, lg_e, lg_l, tb_z, Nat.mod_eq_of_lt, lN_1s, and_ze, brT, brF, brN, vpT, a4095, a63, nI_e, nI_l', nI_t', dif_z, and_z, and_zr, lN_e, nI_clamp, nx_shr, Nat.reducePow, bI_0, bI_1, bI_z, bI_o, bI_or, n01, nI_add, pk_mul, nx_and, nx_or, nx_dif, lx_and, lx_or, lx_dif, Bool.not_eq_true, Bool.not_eq_false, Bool.true_eq_false, Bool.false_eq_true, ss_49 q0.1.1, m_61z q0.1.1, m_65 q0.1, bP_tt]
  have q1 := r0.2.1
  generalize ap_i h 49 0 (nI 0) = h1 at *
  have hp := q1.1.1
  have lp : ∀ j t, rk p t 12 = j → t &&& p = t → ∀ y, y < 4096 → (∀ b, y.testBit b = true ↔ ∃ u, u &&& p = u ∧ j < rk p u 12 ∧ unf P T F p u = true ∧ u.testBit b = true) → TT sc (d + 6) 149 Q 16 [.ref 49, .int (nI p), .int (nI y), .int (nI t)] [] h1 := by
    intro j
    induction j with
    | zero =>
      intro t hr ht y hy H
      have t0 := wk_z pl ht hr
      subst t0
      refine wx_sound (S := [16]) 60 true _ _ _ _ ?_
      simp +contextual (disch := omega) only [K149, wx_t, wx_g, wJ_t, wJ_f, wI_s, CI, CL, C01, aftC_v, aftC_n, true_or, or_true, true_and, and_true, inS_n, inS_c, pI_c, pL_c, pA_c, pV_c, pE_c, pQ_s, pQ_n, pQ_r, cm_eq', cm_ne', cm_lt', cm_ge', cm_gt', cm_le', List.getD_cons_zero, List.getD_cons_succ, Nat.reduceAdd, Nat.reduceBEq, Bool.false_or, Bool.or_false, Bool.true_or, Int.reduceToNat, s_iload, s_lload, s_aload, s_istore, s_astore, s_lstore, s_iconst, s_sipush, s_aconst_null, s_iadd, s_isub, s_imul, s_iand, s_ior, s_ixor, s_idiv, s_irem, s_ishl, s_ishr, s_iushr, s_ladd, s_lsub, s_land, s_lor, s_lxor, s_lneg, s_lshl, s_lshr, s_lushr, s_i2l, s_l2i, s_lcmp, s_dup, s_pop, s_dup2, s_i2c, s_i2s, s_monitorenter, s_ifCond, s_if_icmp, s_ifnull, s_goto, s_iinc, s_tableswitch, s_ireturn, s_freturn, s_lreturn, s_areturn, s_return_, s_ldc, s_getfield, s_putfield, s_iaload, s_iastore, s_laload, s_lastore, s_baload, s_bastore, s_aaload, s_aastore, s_arraylength, s_newarray, s_anewarray, s_new, s_invokestatic, s_invokespecial, s_invokevirtual, fvl_0, fvl_1, fvl_2, fvl_3, fp_0, fp_1, fp_2, fp_3, rf_s, rf_n, isRf_b, knw_b, isLg_b, popA_0, popA_s, st1_0, st1_s, st2_e, set_0, set_s, aftC_e, hxP_s, hxP_n, iteF, iteT, bft, im_t, im_f, nt_f, nt_t, Nat.reduceDiv, Nat.reduceMod, Nat.reduceLeDiff, Nat.reduceLT, Nat.reduceEqDiff, List.length_cons, List.length_nil, Nat.zero_add, Nat.reduceSub, List.cons_append, List.nil_append, ak_i, az_i, ar_i, al_i, ai_i, ak_l, az_l, ar_l, al_l, ai_l, ak_r, az_r, ar_r, al_r, ai_r, pk_m1, reduceCtorEq, msk_tb, mskL, Bool.and_eq_true, decide_eq_true_eq, lg_0, lg_t, lg_g, lg_e, lg_l, tb_z, Nat.mod_eq_of_lt, lN_1s, and_ze, brT, brF, brN, vpT, a4095, a63, nI_e, nI_l', nI_t', dif_z, and_z, and_zr, lN_e, nI_clamp, nx_shr, Nat.reducePow, bI_0, bI_1, bI_z, bI_o, bI_or, n01, nI_add, pk_mul, nx_and, nx_or, nx_dif, lx_and, lx_or, lx_dif, Bool.not_eq_true, Bool.not_eq_false, Bool.true_eq_false, Bool.false_eq_true, ss_49 hp]
      have : y = orU (unf P T F p) (2 ^ P_n P) := Nat.eq_of_testBit_eq fun b => by
        rw [Bool.eq_iff_iff, H, orU_tb]
        constructor
        · rintro ⟨u, h1, h2, h3, h4⟩
          exact ⟨u, ul u h1, h3, h4⟩
        · rintro ⟨u, h1, h3, h4⟩
          have hu : u &&& p = u := by
            unfold unf at h3
            rw [Bool.and_eq_true, decide_eq_true_eq] at h3
            rw [Nat.and_comm]; exact and_dif.mpr h3.1
          refine ⟨u, hu, Nat.pos_of_ne_zero fun z => ?_, h3, h4⟩
          rw [wk_z pl hu z, Nat.zero_testBit] at h4
          cases h4
      rw [this, ← hQ]
      exact ⟨rfl, r0⟩
    | succ j ih =>
      intro t hr ht y hy H
      have t0 : t ≠ 0 := by rintro rfl; rw [rk_0] at hr; omega
      have tl : t < 2 ^ 12 := Nat.lt_of_le_of_lt (ht ▸ Nat.and_le_right) pl
      have e := rk_pred (n := 12) tl t0 (sub_tb.mp ht)
      have as : (t - 1 &&& p) &&& p = t - 1 &&& p := by rw [Nat.and_assoc, Nat.and_self]
      have p1 : nI t - nI 1 = nI (t - 1) := pk_sub (by omega)
      have tz : (nI t = nI 0) = False := eq_false (by rw [nI_e (by omega) (by decide)]; exact t0)
      have zd : (nI (dif t y) = nI 0) = (dif t y = 0) := dif_z (by omega)
      have vt : ∀ u, u &&& p = u → (j < rk p u 12 ↔ u = t ∨ j + 1 < rk p u 12) := fun u hu => by
        constructor
        · intro h
          by_cases q : rk p u 12 = rk p t 12
          · refine Or.inl (Nat.eq_of_testBit_eq fun i => ?_)
            by_cases i12 : i < 12
            · exact rk_inj (sub_tb.mp hu) (sub_tb.mp ht) q i i12
            · rw [tb_ge (Nat.lt_of_le_of_lt (hu ▸ Nat.and_le_right) pl) (by omega), tb_ge tl (by omega)]
          · exact Or.inr (by omega)
        · rintro (q | q)
          · rw [q]; omega
          · omega
      have same : (∀ b, unf P T F p t = true → t.testBit b = true → y.testBit b = true) → TT sc (d + 6) 149 Q 16 [.ref 49, .int (nI p), .int (nI y), .int (nI (t - 1 &&& p))] [] h1 := fun n => by
        refine ih _ (by omega) as y hy fun b => ?_
        rw [H b]
        constructor
        · rintro ⟨u, h1, h2, h3⟩
          exact ⟨u, h1, by omega, h3⟩
        · rintro ⟨u, h1, h2, h3, h4⟩
          rcases (vt u h1).mp h2 with q | q
          · rw [q] at h3 h4
            exact (H b).mp (n b h3 h4)
          · exact ⟨u, h1, q, h3, h4⟩
      refine wx_sound (S := [16]) 60 true _ _ _ _ ?_
      simp +contextual (disch := omega) only [K149, wx_t, wx_g, wJ_t, wJ_f, wI_s, CI, CL, C01, aftC_v, aftC_n, true_or, or_true, true_and, and_true, inS_n, inS_c, pI_c, pL_c, pA_c, pV_c, pE_c, pQ_s, pQ_n, pQ_r, cm_eq', cm_ne', cm_lt', cm_ge', cm_gt', cm_le', List.getD_cons_zero, List.getD_cons_succ, Nat.reduceAdd, Nat.reduceBEq, Bool.false_or, Bool.or_false, Bool.true_or, Int.reduceToNat, s_iload, s_lload, s_aload, s_istore, s_astore, s_lstore, s_iconst, s_sipush, s_aconst_null, s_iadd, s_isub, s_imul, s_iand, s_ior, s_ixor, s_idiv, s_irem, s_ishl, s_ishr, s_iushr, s_ladd, s_lsub, s_land, s_lor, s_lxor, s_lneg, s_lshl, s_lshr, s_lushr, s_i2l, s_l2i, s_lcmp, s_dup, s_pop, s_dup2, s_i2c, s_i2s, s_monitorenter, s_ifCond, s_if_icmp, s_ifnull, s_goto, s_iinc, s_tableswitch, s_ireturn, s_freturn, s_lreturn, s_areturn, s_return_, s_ldc, s_getfield, s_putfield, s_iaload, s_iastore, s_laload, s_lastore, s_baload, s_bastore, s_aaload, s_aastore, s_arraylength, s_newarray, s_anewarray, s_new, s_invokestatic, s_invokespecial, s_invokevirtual, fvl_0, fvl_1, fvl_2, fvl_3, fp_0, fp_1, fp_2, fp_3, rf_s, rf_n, isRf_b, knw_b, isLg_b, popA_0, popA_s, st1_0, st1_s, st2_e, set_0, set_s, aftC_e, hxP_s, hxP_n, iteF, iteT, bft, im_t, im_f, nt_f, nt_t, Nat.reduceDiv, Nat.reduceMod, Nat.reduceLeDiff, Nat.reduceLT, Nat.reduceEqDiff, List.length_cons, List.length_nil, Nat.zero_add, Nat.reduceSub, List.cons_append, List.nil_append, ak_i, az_i, ar_i, al_i, ai_i, ak_l, az_l, ar_l, al_l, ai_l, ak_r, az_r, ar_r, al_r, ai_r, pk_m1, reduceCtorEq, msk_tb, mskL, Bool.and_eq_true, decide_eq_true_eq, lg_0, lg_t, lg_g, lg_e, lg_l, tb_z, Nat.mod_eq_of_lt, lN_1s, and_ze, brT, brF, brN, vpT, a4095, a63, nI_e, nI_l', nI_t', dif_z, and_z, and_zr, lN_e, nI_clamp, nx_shr, Nat.reducePow, bI_0, bI_1, bI_z, bI_o, bI_or, n01, nI_add, pk_mul, nx_and, nx_or, nx_dif, lx_and, lx_or, lx_dif, Bool.not_eq_true, Bool.not_eq_false, Bool.true_eq_false, Bool.false_eq_true, ss_49 hp, p1, tz, zd, m_148 q1 tl hpp, nx_or, Nat.or_zero]
      refine And.intro (fun e1 => same fun b _ hb => ?_) fun e1 => And.intro (fun e2 => same fun b hu _ => ?_) fun e2 => ?_
      · have := congrArg (fun z => z.testBit b) e1
        simp only [dif_tb, hb, Nat.zero_testBit, Bool.true_and] at this
        cases q : y.testBit b
        · rw [q] at this; cases this
        · rfl
      · rw [uf t ht, e2] at hu; cases hu
      · refine ih _ (by omega) as _ (or_lt (n := 12) hy tl) fun b => ?_
        rw [Nat.testBit_or, Bool.or_eq_true, H b]
        constructor
        · rintro (⟨u, h1, h2, h3⟩ | h)
          · exact ⟨u, h1, by omega, h3⟩
          · exact ⟨t, ht, by omega, by rw [uf t ht]; exact e2, h⟩
        · rintro ⟨u, h1, h2, h3, h4⟩
          rcases (vt u h1).mp h2 with q | q
          · exact Or.inr (q ▸ h4)
          · exact Or.inl ⟨u, h1, q, h3, h4⟩
  refine lp _ p rfl (Nat.and_self p) 0 (by omega) fun b => ?_
  rw [Nat.zero_testBit]
  refine Iff.intro (fun z => (Bool.false_ne_true z).elim) ?_
  rintro ⟨u, hu, hv, -⟩
  have ul : u < 2 ^ 12 := Nat.lt_of_le_of_lt (hu ▸ Nat.and_le_right) pl
  have := rk_mono (sub_tb.mp hu) (sub_tb.mp (Nat.and_self p)) 12 (by rw [Nat.mod_eq_of_lt ul, Nat.mod_eq_of_lt pl]; exact hu ▸ Nat.and_le_right)
  exact absurd hv (by omega)
theorem m_113n (c : MP h P) {i : Int32} (hi : ¬ vp_in i (P_m P)) : TC sc (d + 3) 113 [.ref 49, .int i] h Q ↔ Q (.inl (some (.int (nI 0)))) (ap_i h 49 0 (nI 1)) := TC_of (fun Q hq => by
  have m60 := c.m
  have := in_vp (i := i) (N := P_m P) (by omega)
  rw [bP_no hi] at this
  refine TC_e (ls := [.ref 49, .int i]) (Nat.le_of_ble_eq_true rfl) rfl (wx_sound (S := []) 60 true _ _ _ _ ?_)
  simp +contextual (disch := omega) only [K113, wx_t, wx_g, wJ_t, wJ_f, wI_s, CI, CL, C01, aftC_v, aftC_n, true_or, or_true, true_and, and_true, inS_n, inS_c, pI_c, pL_c, pA_c, pV_c, pE_c, pQ_s, pQ_n, pQ_r, cm_eq', cm_ne', cm_lt', cm_ge', cm_gt', cm_le', List.getD_cons_zero, List.getD_cons_succ, Nat.reduceAdd, Nat.reduceBEq, Bool.false_or, Bool.or_false, Bool.true_or, Int.reduceToNat, s_iload, s_lload, s_aload, s_istore, s_astore, s_lstore, s_iconst, s_sipush, s_aconst_null, s_iadd, s_isub, s_imul, s_iand, s_ior, s_ixor, s_idiv, s_irem, s_ishl, s_ishr, s_iushr, s_ladd, s_lsub, s_land, s_lor, s_lxor, s_lneg, s_lshl, s_lshr, s_lushr, s_i2l, s_l2i, s_lcmp, s_dup, s_pop, s_dup2, s_i2c, s_i2s, s_monitorenter, s_ifCond, s_if_icmp, s_ifnull, s_goto, s_iinc, s_tableswitch, s_ireturn, s_freturn, s_lreturn, s_areturn, s_return_, s_ldc, s_getfield, s_putfield, s_iaload, s_iastore, s_laload, s_lastore, s_baload, s_bastore, s_aaload, s_aastore, s_arraylength, s_newarray, s_anewarray, s_new, s_invokestatic, s_invokespecial, s_invokevirtual, fvl_0, fvl_1, fvl_2, fvl_3, fp_0, fp_1, fp_2, fp_3, rf_s, rf_n, isRf_b, knw_b, isLg_b, popA_0, popA_s, st1_0, st1_s, st2_e, set_0, set_s, aftC_e, hxP_s, hxP_n, iteF, iteT, bft, im_t, im_f, nt_f, nt_t, Nat.reduceDiv, Nat.reduceMod, Nat.reduceLeDiff, Nat.reduceLT, Nat.reduceEqDiff, List.length_cons, List.length_nil, Nat.zero_add, Nat.reduceSub, List.cons_append, List.nil_append, ak_i, az_i, ar_i, al_i, ai_i, ak_l, az_l, ar_l, al_l, ai_l, ak_r, az_r, ar_r, al_r, ai_r, pk_m1, reduceCtorEq, msk_tb, mskL, Bool.and_eq_true, decide_eq_true_eq, lg_0, lg_t, lg_g, lg_e, lg_l, tb_z, Nat.mod_eq_of_lt, lN_1s, and_ze, brT, brF, brN, vpT, a4095, a63, nI_e, nI_l', nI_t', dif_z, and_z, and_zr, lN_e, nI_clamp, nx_shr, Nat.reducePow, bI_0, bI_1, bI_z, bI_o, bI_or, n01, nI_add, pk_mul, nx_and, nx_or, nx_dif, lx_and, lx_or, lx_dif, Bool.not_eq_true, Bool.not_eq_false, Bool.true_eq_false, Bool.false_eq_true, ss_49 c.1, c.f.2, m_62, this, m_61o c.1]
  refine ⟨hq, fun z => ?_⟩
  rw [decide_eq_true z.1, decide_eq_true z.2] at this
  cases this) Q
end MDL
