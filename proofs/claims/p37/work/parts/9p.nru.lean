/-! A NEW RULE OF THE CLASS -/
/-- a new list at e -/
def hE (h : AH) (e c : Nat) : AH := ap_i (ap_r (ap_n h 20 4 4) e 0 (some (ah_n h))) e 1 (nI c)
theorem an_i {h : AH} {a k : Nat} {v : Int32} : ah_n (ap_i h a k v) = ah_n h := rfl
theorem an_r {h : AH} {a k : Nat} {v : Option Nat} : ah_n (ap_r h a k v) = ah_n h := rfl
theorem an_l {h : AH} {a k : Nat} {v : Int64} : ah_n (ap_l h a k v) = ah_n h := rfl
theorem an_E {h : AH} {e c : Nat} : ah_n (hE h e c) = ah_n h + 1 := rfl
theorem aK_i : (aKind ArrayType.int ≤ 23) = True ∧ (nI 4 < 0) = False ∧ aKind ArrayType.int = 20 := by decide
/-- a new head at k -/
def hH (h : AH) (k : Nat) : AH := ap_r (hE (ap_n (ap_i h k 0 (nI 0)) 1 0 3) (ah_n h) 3) k 1 (some (ah_n h))
/-- a new sum at k -/
def hS (h : AH) (k : Nat) : AH := ap_r (ap_n (ap_r (hE (ap_n h 1 0 3) (ah_n h) 4) k 3 (some (ah_n h))) 20 4 4) k 4 (some (ah_n h + 2))
section CLS
variable {sc : (Nat → Int32) × Nat} {d : Nat} {h : AH} {Q : Rs → AH → Prop} {r e : Nat}
theorem c_154 (k : ah_k h e = 1) (l : e < ah_n h) {c : Nat} : TC sc (d + 1) 154 [.ref e, .int (nI c)] h Q ↔ Q (.inl none) (hE h e c) := TC_of (fun Q hq => by
  have n1 : (e = ah_n h) = False := eq_false (by omega)
  refine TC_e (ls := [.ref e, .int (nI c)]) (Nat.le_of_ble_eq_true rfl) rfl (wx_sound (S := []) 20 true _ _ _ _ ?_)
  simp +contextual (disch := omega) only [K154, wx_t, wx_g, wJ_t, wJ_f, wI_s, CI, CL, C01, aftC_v, aftC_n, true_or, or_true, true_and, and_true, inS_n, inS_c, pI_c, pL_c, pA_c, pV_c, pE_c, pQ_s, pQ_n, pQ_r, cm_eq', cm_ne', cm_lt', cm_ge', cm_gt', cm_le', List.getD_cons_zero, List.getD_cons_succ, Nat.reduceAdd, Nat.reduceBEq, Bool.false_or, Bool.or_false, Bool.true_or, Int.reduceToNat, s_iload, s_lload, s_aload, s_istore, s_astore, s_lstore, s_iconst, s_sipush, s_aconst_null, s_iadd, s_isub, s_imul, s_iand, s_ior, s_ixor, s_idiv, s_irem, s_ishl, s_ishr, s_iushr, s_ladd, s_lsub, s_land, s_lor, s_lxor, s_lneg, s_lshl, s_lshr, s_lushr, s_i2l, s_l2i, s_lcmp, s_dup, s_pop, s_dup2, s_i2c, s_i2s, s_monitorenter, s_ifCond, s_if_icmp, s_ifnull, s_goto, s_iinc, s_tableswitch, s_ireturn, s_freturn, s_lreturn, s_areturn, s_return_, s_ldc, s_getfield, s_putfield, s_iaload, s_iastore, s_laload, s_lastore, s_baload, s_bastore, s_aaload, s_aastore, s_arraylength, s_newarray, s_anewarray, s_new, s_invokestatic, s_invokespecial, s_invokevirtual, fvl_0, fvl_1, fvl_2, fvl_3, fp_0, fp_1, fp_2, fp_3, rf_s, rf_n, isRf_b, knw_b, isLg_b, popA_0, popA_s, st1_0, st1_s, st2_e, set_0, set_s, aftC_e, hxP_s, hxP_n, iteF, iteT, bft, im_t, im_f, nt_f, nt_t, Nat.reduceDiv, Nat.reduceMod, Nat.reduceLeDiff, Nat.reduceLT, Nat.reduceEqDiff, List.length_cons, List.length_nil, Nat.zero_add, Nat.reduceSub, List.cons_append, List.nil_append, ak_i, az_i, ar_i, al_i, ai_i, ak_l, az_l, ar_l, al_l, ai_l, ak_r, az_r, ar_r, al_r, ai_r, pk_m1, reduceCtorEq, msk_tb, mskL, Bool.and_eq_true, decide_eq_true_eq, lg_0, lg_t, lg_g, lg_e, lg_l, tb_z, Nat.mod_eq_of_lt, lN_1s, and_ze, brT, brF, brN, vpT, a4095, a63, nI_e, nI_l', nI_t', dif_z, and_z, and_zr, lN_e, nI_clamp, nx_shr, Nat.reducePow, bI_0, bI_1, bI_z, bI_o, bI_or, n01, nI_add, pk_mul, nx_and, nx_or, nx_dif, lx_and, lx_or, lx_dif, Bool.not_eq_true, Bool.not_eq_false, Bool.true_eq_false, Bool.false_eq_true, k, n1, if_false, ak_n, ofN, if_true, aK_i]
  exact hq) Q
theorem c_195 (k : ah_k h e = 5) (l : e < ah_n h) : TC sc (d + 2) 195 [.ref e] h Q ↔ Q (.inl none) (hH h e) := TC_of (fun Q hq => by
  have n1 : (e = ah_n h) = False := eq_false (by omega)
  have n2 : (e = ah_n h + 1) = False := eq_false (by omega)
  have k154 := fun Q => c_154 (sc := sc) (d := d) (Q := Q) (c := 3) (h := ap_n (ap_i h e 0 (nI 0)) 1 0 3) (e := ah_n h) (by rw [ak_n, an_i, if_pos rfl]) (by rw [an_n, an_i]; omega)
  refine TC_e (ls := [.ref e]) (Nat.le_of_ble_eq_true rfl) rfl (wx_sound (S := []) 20 true _ _ _ _ ?_)
  simp +contextual (disch := omega) only [K195, wx_t, wx_g, wJ_t, wJ_f, wI_s, CI, CL, C01, aftC_v, aftC_n, true_or, or_true, true_and, and_true, inS_n, inS_c, pI_c, pL_c, pA_c, pV_c, pE_c, pQ_s, pQ_n, pQ_r, cm_eq', cm_ne', cm_lt', cm_ge', cm_gt', cm_le', List.getD_cons_zero, List.getD_cons_succ, Nat.reduceAdd, Nat.reduceBEq, Bool.false_or, Bool.or_false, Bool.true_or, Int.reduceToNat, s_iload, s_lload, s_aload, s_istore, s_astore, s_lstore, s_iconst, s_sipush, s_aconst_null, s_iadd, s_isub, s_imul, s_iand, s_ior, s_ixor, s_idiv, s_irem, s_ishl, s_ishr, s_iushr, s_ladd, s_lsub, s_land, s_lor, s_lxor, s_lneg, s_lshl, s_lshr, s_lushr, s_i2l, s_l2i, s_lcmp, s_dup, s_pop, s_dup2, s_i2c, s_i2s, s_monitorenter, s_ifCond, s_if_icmp, s_ifnull, s_goto, s_iinc, s_tableswitch, s_ireturn, s_freturn, s_lreturn, s_areturn, s_return_, s_ldc, s_getfield, s_putfield, s_iaload, s_iastore, s_laload, s_lastore, s_baload, s_bastore, s_aaload, s_aastore, s_arraylength, s_newarray, s_anewarray, s_new, s_invokestatic, s_invokespecial, s_invokevirtual, fvl_0, fvl_1, fvl_2, fvl_3, fp_0, fp_1, fp_2, fp_3, rf_s, rf_n, isRf_b, knw_b, isLg_b, popA_0, popA_s, st1_0, st1_s, st2_e, set_0, set_s, aftC_e, hxP_s, hxP_n, iteF, iteT, bft, im_t, im_f, nt_f, nt_t, Nat.reduceDiv, Nat.reduceMod, Nat.reduceLeDiff, Nat.reduceLT, Nat.reduceEqDiff, List.length_cons, List.length_nil, Nat.zero_add, Nat.reduceSub, List.cons_append, List.nil_append, ak_i, az_i, ar_i, al_i, ai_i, ak_l, az_l, ar_l, al_l, ai_l, ak_r, az_r, ar_r, al_r, ai_r, pk_m1, reduceCtorEq, msk_tb, mskL, Bool.and_eq_true, decide_eq_true_eq, lg_0, lg_t, lg_g, lg_e, lg_l, tb_z, Nat.mod_eq_of_lt, lN_1s, and_ze, brT, brF, brN, vpT, a4095, a63, nI_e, nI_l', nI_t', dif_z, and_z, and_zr, lN_e, nI_clamp, nx_shr, Nat.reducePow, bI_0, bI_1, bI_z, bI_o, bI_or, n01, nI_add, pk_mul, nx_and, nx_or, nx_dif, lx_and, lx_or, lx_dif, Bool.not_eq_true, Bool.not_eq_false, Bool.true_eq_false, Bool.false_eq_true, k, n1, n2, if_false, ak_n, ofN, if_true, aK_i, an_i, k154, hE, an_n, an_r]
  exact hq) Q
theorem c_246 (k : ah_k h e = 10) (l : e < ah_n h) : TC sc (d + 2) 246 [.ref e] h Q ↔ Q (.inl none) (hS h e) := TC_of (fun Q hq => by
  have n1 : (e = ah_n h) = False := eq_false (by omega)
  have n2 : (e = ah_n h + 1) = False := eq_false (by omega)
  have n3 : (e = ah_n h + 2) = False := eq_false (by omega)
  have k154 := fun Q => c_154 (sc := sc) (d := d) (Q := Q) (c := 4) (h := ap_n h 1 0 3) (e := ah_n h) (by rw [ak_n, if_pos rfl]) (by rw [an_n]; omega)
  refine TC_e (ls := [.ref e]) (Nat.le_of_ble_eq_true rfl) rfl (wx_sound (S := []) 20 true _ _ _ _ ?_)
  simp +contextual (disch := omega) only [K246, wx_t, wx_g, wJ_t, wJ_f, wI_s, CI, CL, C01, aftC_v, aftC_n, true_or, or_true, true_and, and_true, inS_n, inS_c, pI_c, pL_c, pA_c, pV_c, pE_c, pQ_s, pQ_n, pQ_r, cm_eq', cm_ne', cm_lt', cm_ge', cm_gt', cm_le', List.getD_cons_zero, List.getD_cons_succ, Nat.reduceAdd, Nat.reduceBEq, Bool.false_or, Bool.or_false, Bool.true_or, Int.reduceToNat, s_iload, s_lload, s_aload, s_istore, s_astore, s_lstore, s_iconst, s_sipush, s_aconst_null, s_iadd, s_isub, s_imul, s_iand, s_ior, s_ixor, s_idiv, s_irem, s_ishl, s_ishr, s_iushr, s_ladd, s_lsub, s_land, s_lor, s_lxor, s_lneg, s_lshl, s_lshr, s_lushr, s_i2l, s_l2i, s_lcmp, s_dup, s_pop, s_dup2, s_i2c, s_i2s, s_monitorenter, s_ifCond, s_if_icmp, s_ifnull, s_goto, s_iinc, s_tableswitch, s_ireturn, s_freturn, s_lreturn, s_areturn, s_return_, s_ldc, s_getfield, s_putfield, s_iaload, s_iastore, s_laload, s_lastore, s_baload, s_bastore, s_aaload, s_aastore, s_arraylength, s_newarray, s_anewarray, s_new, s_invokestatic, s_invokespecial, s_invokevirtual, fvl_0, fvl_1, fvl_2, fvl_3, fp_0, fp_1, fp_2, fp_3, rf_s, rf_n, isRf_b, knw_b, isLg_b, popA_0, popA_s, st1_0, st1_s, st2_e, set_0, set_s, aftC_e, hxP_s, hxP_n, iteF, iteT, bft, im_t, im_f, nt_f, nt_t, Nat.reduceDiv, Nat.reduceMod, Nat.reduceLeDiff, Nat.reduceLT, Nat.reduceEqDiff, List.length_cons, List.length_nil, Nat.zero_add, Nat.reduceSub, List.cons_append, List.nil_append, ak_i, az_i, ar_i, al_i, ai_i, ak_l, az_l, ar_l, al_l, ai_l, ak_r, az_r, ar_r, al_r, ai_r, pk_m1, reduceCtorEq, msk_tb, mskL, Bool.and_eq_true, decide_eq_true_eq, lg_0, lg_t, lg_g, lg_e, lg_l, tb_z, Nat.mod_eq_of_lt, lN_1s, and_ze, brT, brF, brN, vpT, a4095, a63, nI_e, nI_l', nI_t', dif_z, and_z, and_zr, lN_e, nI_clamp, nx_shr, Nat.reducePow, bI_0, bI_1, bI_z, bI_o, bI_or, n01, nI_add, pk_mul, nx_and, nx_or, nx_dif, lx_and, lx_or, lx_dif, Bool.not_eq_true, Bool.not_eq_false, Bool.true_eq_false, Bool.false_eq_true, k, n1, n2, n3, if_false, ak_n, ofN, if_true, aK_i, an_i, k154, hE, an_n, an_r]
  exact hq) Q
def hL (h : AH) (r f : Nat) : AH := ap_r (hE (ap_n h 1 0 3) (ah_n h) 3) r f (some (ah_n h))
def hA (h : AH) (r f : Nat) : AH := ap_r (ap_n h 20 4 4) r f (some (ah_n h))
theorem s_230a (k : ah_k h r = 8) (l : r < ah_n h) (K : TT sc (d + 2) 230 Q 7 [.ref r] [] (ap_r (hH (ap_n h 5 0 9) (ah_n h)) r 0 (some (ah_n h)))) : TC sc (d + 3) 230 [.ref r] h Q := by
  have n1 : (r = ah_n h) = False := eq_false (by omega)
  have n2 : (r = ah_n h + 1) = False := eq_false (by omega)
  have n3 : (r = ah_n h + 2) = False := eq_false (by omega)
  have k195 := fun Q => c_195 (sc := sc) (d := d) (Q := Q) (h := ap_n h 5 0 9) (e := ah_n h) (by rw [ak_n, if_pos rfl]) (by rw [an_n]; omega)
  refine TC_e (ls := [.ref r]) (Nat.le_of_ble_eq_true rfl) rfl (wx_sound (S := [7]) 20 true _ _ _ _ ?_)
  simp +contextual (disch := omega) only [K230, wx_t, wx_g, wJ_t, wJ_f, wI_s, CI, CL, C01, aftC_v, aftC_n, true_or, or_true, true_and, and_true, inS_n, inS_c, pI_c, pL_c, pA_c, pV_c, pE_c, pQ_s, pQ_n, pQ_r, cm_eq', cm_ne', cm_lt', cm_ge', cm_gt', cm_le', List.getD_cons_zero, List.getD_cons_succ, Nat.reduceAdd, Nat.reduceBEq, Bool.false_or, Bool.or_false, Bool.true_or, Int.reduceToNat, s_iload, s_lload, s_aload, s_istore, s_astore, s_lstore, s_iconst, s_sipush, s_aconst_null, s_iadd, s_isub, s_imul, s_iand, s_ior, s_ixor, s_idiv, s_irem, s_ishl, s_ishr, s_iushr, s_ladd, s_lsub, s_land, s_lor, s_lxor, s_lneg, s_lshl, s_lshr, s_lushr, s_i2l, s_l2i, s_lcmp, s_dup, s_pop, s_dup2, s_i2c, s_i2s, s_monitorenter, s_ifCond, s_if_icmp, s_ifnull, s_goto, s_iinc, s_tableswitch, s_ireturn, s_freturn, s_lreturn, s_areturn, s_return_, s_ldc, s_getfield, s_putfield, s_iaload, s_iastore, s_laload, s_lastore, s_baload, s_bastore, s_aaload, s_aastore, s_arraylength, s_newarray, s_anewarray, s_new, s_invokestatic, s_invokespecial, s_invokevirtual, fvl_0, fvl_1, fvl_2, fvl_3, fp_0, fp_1, fp_2, fp_3, rf_s, rf_n, isRf_b, knw_b, isLg_b, popA_0, popA_s, st1_0, st1_s, st2_e, set_0, set_s, aftC_e, hxP_s, hxP_n, iteF, iteT, bft, im_t, im_f, nt_f, nt_t, Nat.reduceDiv, Nat.reduceMod, Nat.reduceLeDiff, Nat.reduceLT, Nat.reduceEqDiff, List.length_cons, List.length_nil, Nat.zero_add, Nat.reduceSub, List.cons_append, List.nil_append, ak_i, az_i, ar_i, al_i, ai_i, ak_l, az_l, ar_l, al_l, ai_l, ak_r, az_r, ar_r, al_r, ai_r, pk_m1, reduceCtorEq, msk_tb, mskL, Bool.and_eq_true, decide_eq_true_eq, lg_0, lg_t, lg_g, lg_e, lg_l, tb_z, Nat.mod_eq_of_lt, lN_1s, and_ze, brT, brF, brN, vpT, a4095, a63, nI_e, nI_l', nI_t', dif_z, and_z, and_zr, lN_e, nI_clamp, nx_shr, Nat.reducePow, bI_0, bI_1, bI_z, bI_o, bI_or, n01, nI_add, pk_mul, nx_and, nx_or, nx_dif, lx_and, lx_or, lx_dif, Bool.not_eq_true, Bool.not_eq_false, Bool.true_eq_false, Bool.false_eq_true, k, n1, n2, n3, if_false, ak_n, if_true, k195, hH, hE, an_n, an_r, an_i]
  exact K
theorem s_230l {i f : Nat} (hi : i = 7 ∧ f = 1 ∨ i = 13 ∧ f = 2 ∨ i = 19 ∧ f = 3) (k : ah_k h r = 8) (l : r < ah_n h) (K : TT sc (d + 2) 230 Q (i + 6) [.ref r] [] (hL h r f)) : TT sc (d + 2) 230 Q i [.ref r] [] h := by
  have n1 : (r = ah_n h) = False := eq_false (by omega)
  have n2 : (r = ah_n h + 1) = False := eq_false (by omega)
  have k154 := fun Q => c_154 (sc := sc) (d := d + 1) (Q := Q) (c := 3) (h := ap_n h 1 0 3) (e := ah_n h) (by rw [ak_n, if_pos rfl]) (by rw [an_n]; omega)
  unfold hL at K
  rcases hi with ⟨rfl, rfl⟩ | ⟨rfl, rfl⟩ | ⟨rfl, rfl⟩
  · refine wx_sound (S := [13]) 20 true _ _ _ _ ?_
    simp +contextual (disch := omega) only [K230, wx_t, wx_g, wJ_t, wJ_f, wI_s, CI, CL, C01, aftC_v, aftC_n, true_or, or_true, true_and, and_true, inS_n, inS_c, pI_c, pL_c, pA_c, pV_c, pE_c, pQ_s, pQ_n, pQ_r, cm_eq', cm_ne', cm_lt', cm_ge', cm_gt', cm_le', List.getD_cons_zero, List.getD_cons_succ, Nat.reduceAdd, Nat.reduceBEq, Bool.false_or, Bool.or_false, Bool.true_or, Int.reduceToNat, s_iload, s_lload, s_aload, s_istore, s_astore, s_lstore, s_iconst, s_sipush, s_aconst_null, s_iadd, s_isub, s_imul, s_iand, s_ior, s_ixor, s_idiv, s_irem, s_ishl, s_ishr, s_iushr, s_ladd, s_lsub, s_land, s_lor, s_lxor, s_lneg, s_lshl, s_lshr, s_lushr, s_i2l, s_l2i, s_lcmp, s_dup, s_pop, s_dup2, s_i2c, s_i2s, s_monitorenter, s_ifCond, s_if_icmp, s_ifnull, s_goto, s_iinc, s_tableswitch, s_ireturn, s_freturn, s_lreturn, s_areturn, s_return_, s_ldc, s_getfield, s_putfield, s_iaload, s_iastore, s_laload, s_lastore, s_baload, s_bastore, s_aaload, s_aastore, s_arraylength, s_newarray, s_anewarray, s_new, s_invokestatic, s_invokespecial, s_invokevirtual, fvl_0, fvl_1, fvl_2, fvl_3, fp_0, fp_1, fp_2, fp_3, rf_s, rf_n, isRf_b, knw_b, isLg_b, popA_0, popA_s, st1_0, st1_s, st2_e, set_0, set_s, aftC_e, hxP_s, hxP_n, iteF, iteT, bft, im_t, im_f, nt_f, nt_t, Nat.reduceDiv, Nat.reduceMod, Nat.reduceLeDiff, Nat.reduceLT, Nat.reduceEqDiff, List.length_cons, List.length_nil, Nat.zero_add, Nat.reduceSub, List.cons_append, List.nil_append, ak_i, az_i, ar_i, al_i, ai_i, ak_l, az_l, ar_l, al_l, ai_l, ak_r, az_r, ar_r, al_r, ai_r, pk_m1, reduceCtorEq, msk_tb, mskL, Bool.and_eq_true, decide_eq_true_eq, lg_0, lg_t, lg_g, lg_e, lg_l, tb_z, Nat.mod_eq_of_lt, lN_1s, and_ze, brT, brF, brN, vpT, a4095, a63, nI_e, nI_l', nI_t', dif_z, and_z, and_zr, lN_e, nI_clamp, nx_shr, Nat.reducePow, bI_0, bI_1, bI_z, bI_o, bI_or, n01, nI_add, pk_mul, nx_and, nx_or, nx_dif, lx_and, lx_or, lx_dif, Bool.not_eq_true, Bool.not_eq_false, Bool.true_eq_false, Bool.false_eq_true, k, n1, n2, if_false, ak_n, if_true, k154, hE, an_n, an_r, an_i]
    exact K
  · refine wx_sound (S := [19]) 20 true _ _ _ _ ?_
    simp +contextual (disch := omega) only [K230, wx_t, wx_g, wJ_t, wJ_f, wI_s, CI, CL, C01, aftC_v, aftC_n, true_or, or_true, true_and, and_true, inS_n, inS_c, pI_c, pL_c, pA_c, pV_c, pE_c, pQ_s, pQ_n, pQ_r, cm_eq', cm_ne', cm_lt', cm_ge', cm_gt', cm_le', List.getD_cons_zero, List.getD_cons_succ, Nat.reduceAdd, Nat.reduceBEq, Bool.false_or, Bool.or_false, Bool.true_or, Int.reduceToNat, s_iload, s_lload, s_aload, s_istore, s_astore, s_lstore, s_iconst, s_sipush, s_aconst_null, s_iadd, s_isub, s_imul, s_iand, s_ior, s_ixor, s_idiv, s_irem, s_ishl, s_ishr, s_iushr, s_ladd, s_lsub, s_land, s_lor, s_lxor, s_lneg, s_lshl, s_lshr, s_lushr, s_i2l, s_l2i, s_lcmp, s_dup, s_pop, s_dup2, s_i2c, s_i2s, s_monitorenter, s_ifCond, s_if_icmp, s_ifnull, s_goto, s_iinc, s_tableswitch, s_ireturn, s_freturn, s_lreturn, s_areturn, s_return_, s_ldc, s_getfield, s_putfield, s_iaload, s_iastore, s_laload, s_lastore, s_baload, s_bastore, s_aaload, s_aastore, s_arraylength, s_newarray, s_anewarray, s_new, s_invokestatic, s_invokespecial, s_invokevirtual, fvl_0, fvl_1, fvl_2, fvl_3, fp_0, fp_1, fp_2, fp_3, rf_s, rf_n, isRf_b, knw_b, isLg_b, popA_0, popA_s, st1_0, st1_s, st2_e, set_0, set_s, aftC_e, hxP_s, hxP_n, iteF, iteT, bft, im_t, im_f, nt_f, nt_t, Nat.reduceDiv, Nat.reduceMod, Nat.reduceLeDiff, Nat.reduceLT, Nat.reduceEqDiff, List.length_cons, List.length_nil, Nat.zero_add, Nat.reduceSub, List.cons_append, List.nil_append, ak_i, az_i, ar_i, al_i, ai_i, ak_l, az_l, ar_l, al_l, ai_l, ak_r, az_r, ar_r, al_r, ai_r, pk_m1, reduceCtorEq, msk_tb, mskL, Bool.and_eq_true, decide_eq_true_eq, lg_0, lg_t, lg_g, lg_e, lg_l, tb_z, Nat.mod_eq_of_lt, lN_1s, and_ze, brT, brF, brN, vpT, a4095, a63, nI_e, nI_l', nI_t', dif_z, and_z, and_zr, lN_e, nI_clamp, nx_shr, Nat.reducePow, bI_0, bI_1, bI_z, bI_o, bI_or, n01, nI_add, pk_mul, nx_and, nx_or, nx_dif, lx_and, lx_or, lx_dif, Bool.not_eq_true, Bool.not_eq_false, Bool.true_eq_false, Bool.false_eq_true, k, n1, n2, if_false, ak_n, if_true, k154, hE, an_n, an_r, an_i]
    exact K
  · refine wx_sound (S := [25]) 20 true _ _ _ _ ?_
    simp +contextual (disch := omega) only [K230, wx_t, wx_g, wJ_t, wJ_f, wI_s, CI, CL, C01, aftC_v, aftC_n, true_or, or_true, true_and, and_true, inS_n, inS_c, pI_c, pL_c, pA_c, pV_c, pE_c, pQ_s, pQ_n, pQ_r, cm_eq', cm_ne', cm_lt', cm_ge', cm_gt', cm_le', List.getD_cons_zero, List.getD_cons_succ, Nat.reduceAdd, Nat.reduceBEq, Bool.false_or, Bool.or_false, Bool.true_or, Int.reduceToNat, s_iload, s_lload, s_aload, s_istore, s_astore, s_lstore, s_iconst, s_sipush, s_aconst_null, s_iadd, s_isub, s_imul, s_iand, s_ior, s_ixor, s_idiv, s_irem, s_ishl, s_ishr, s_iushr, s_ladd, s_lsub, s_land, s_lor, s_lxor, s_lneg, s_lshl, s_lshr, s_lushr, s_i2l, s_l2i, s_lcmp, s_dup, s_pop, s_dup2, s_i2c, s_i2s, s_monitorenter, s_ifCond, s_if_icmp, s_ifnull, s_goto, s_iinc, s_tableswitch, s_ireturn, s_freturn, s_lreturn, s_areturn, s_return_, s_ldc, s_getfield, s_putfield, s_iaload, s_iastore, s_laload, s_lastore, s_baload, s_bastore, s_aaload, s_aastore, s_arraylength, s_newarray, s_anewarray, s_new, s_invokestatic, s_invokespecial, s_invokevirtual, fvl_0, fvl_1, fvl_2, fvl_3, fp_0, fp_1, fp_2, fp_3, rf_s, rf_n, isRf_b, knw_b, isLg_b, popA_0, popA_s, st1_0, st1_s, st2_e, set_0, set_s, aftC_e, hxP_s, hxP_n, iteF, iteT, bft, im_t, im_f, nt_f, nt_t, Nat.reduceDiv, Nat.reduceMod, Nat.reduceLeDiff, Nat.reduceLT, Nat.reduceEqDiff, List.length_cons, List.length_nil, Nat.zero_add, Nat.reduceSub, List.cons_append, List.nil_append, ak_i, az_i, ar_i, al_i, ai_i, ak_l, az_l, ar_l, al_l, ai_l, ak_r, az_r, ar_r, al_r, ai_r, pk_m1, reduceCtorEq, msk_tb, mskL, Bool.and_eq_true, decide_eq_true_eq, lg_0, lg_t, lg_g, lg_e, lg_l, tb_z, Nat.mod_eq_of_lt, lN_1s, and_ze, brT, brF, brN, vpT, a4095, a63, nI_e, nI_l', nI_t', dif_z, and_z, and_zr, lN_e, nI_clamp, nx_shr, Nat.reducePow, bI_0, bI_1, bI_z, bI_o, bI_or, n01, nI_add, pk_mul, nx_and, nx_or, nx_dif, lx_and, lx_or, lx_dif, Bool.not_eq_true, Bool.not_eq_false, Bool.true_eq_false, Bool.false_eq_true, k, n1, n2, if_false, ak_n, if_true, k154, hE, an_n, an_r, an_i]
    exact K
theorem s_230s (k : ah_k h r = 8) (l : r < ah_n h) (K : TT sc (d + 2) 230 Q 30 [.ref r] [] (ap_r (hS (ap_n h 10 0 5) (ah_n h)) r 4 (some (ah_n h)))) : TT sc (d + 2) 230 Q 25 [.ref r] [] h := by
  have n1 : (r = ah_n h) = False := eq_false (by omega)
  have n2 : (r = ah_n h + 1) = False := eq_false (by omega)
  have n3 : (r = ah_n h + 2) = False := eq_false (by omega)
  have n4 : (r = ah_n h + 3) = False := eq_false (by omega)
  have k246 := fun Q => c_246 (sc := sc) (d := d) (Q := Q) (h := ap_n h 10 0 5) (e := ah_n h) (by rw [ak_n, if_pos rfl]) (by rw [an_n]; omega)
  refine wx_sound (S := [30]) 20 true _ _ _ _ ?_
  simp +contextual (disch := omega) only [K230, wx_t, wx_g, wJ_t, wJ_f, wI_s, CI, CL, C01, aftC_v, aftC_n, true_or, or_true, true_and, and_true, inS_n, inS_c, pI_c, pL_c, pA_c, pV_c, pE_c, pQ_s, pQ_n, pQ_r, cm_eq', cm_ne', cm_lt', cm_ge', cm_gt', cm_le', List.getD_cons_zero, List.getD_cons_succ, Nat.reduceAdd, Nat.reduceBEq, Bool.false_or, Bool.or_false, Bool.true_or, Int.reduceToNat, s_iload, s_lload, s_aload, s_istore, s_astore, s_lstore, s_iconst, s_sipush, s_aconst_null, s_iadd, s_isub, s_imul, s_iand, s_ior, s_ixor, s_idiv, s_irem, s_ishl, s_ishr, s_iushr, s_ladd, s_lsub, s_land, s_lor, s_lxor, s_lneg, s_lshl, s_lshr, s_lushr, s_i2l, s_l2i, s_lcmp, s_dup, s_pop, s_dup2, s_i2c, s_i2s, s_monitorenter, s_ifCond, s_if_icmp, s_ifnull, s_goto, s_iinc, s_tableswitch, s_ireturn, s_freturn, s_lreturn, s_areturn, s_return_, s_ldc, s_getfield, s_putfield, s_iaload, s_iastore, s_laload, s_lastore, s_baload, s_bastore, s_aaload, s_aastore, s_arraylength, s_newarray, s_anewarray, s_new, s_invokestatic, s_invokespecial, s_invokevirtual, fvl_0, fvl_1, fvl_2, fvl_3, fp_0, fp_1, fp_2, fp_3, rf_s, rf_n, isRf_b, knw_b, isLg_b, popA_0, popA_s, st1_0, st1_s, st2_e, set_0, set_s, aftC_e, hxP_s, hxP_n, iteF, iteT, bft, im_t, im_f, nt_f, nt_t, Nat.reduceDiv, Nat.reduceMod, Nat.reduceLeDiff, Nat.reduceLT, Nat.reduceEqDiff, List.length_cons, List.length_nil, Nat.zero_add, Nat.reduceSub, List.cons_append, List.nil_append, ak_i, az_i, ar_i, al_i, ai_i, ak_l, az_l, ar_l, al_l, ai_l, ak_r, az_r, ar_r, al_r, ai_r, pk_m1, reduceCtorEq, msk_tb, mskL, Bool.and_eq_true, decide_eq_true_eq, lg_0, lg_t, lg_g, lg_e, lg_l, tb_z, Nat.mod_eq_of_lt, lN_1s, and_ze, brT, brF, brN, vpT, a4095, a63, nI_e, nI_l', nI_t', dif_z, and_z, and_zr, lN_e, nI_clamp, nx_shr, Nat.reducePow, bI_0, bI_1, bI_z, bI_o, bI_or, n01, nI_add, pk_mul, nx_and, nx_or, nx_dif, lx_and, lx_or, lx_dif, Bool.not_eq_true, Bool.not_eq_false, Bool.true_eq_false, Bool.false_eq_true, k, n1, n2, n3, n4, if_false, ak_n, if_true, k246, hS, hE, an_n, an_r, an_i]
  exact K
theorem s_230e (k : ah_k h r = 8) (l : r < ah_n h) (K : Q (.inl none) (hA (hA h r 5) r 6)) : TT sc (d + 2) 230 Q 30 [.ref r] [] h := by
  have n1 : (r = ah_n h) = False := eq_false (by omega)
  have n2 : (r = ah_n h + 1) = False := eq_false (by omega)
  refine wx_sound (S := []) 20 true _ _ _ _ ?_
  simp +contextual (disch := omega) only [K230, wx_t, wx_g, wJ_t, wJ_f, wI_s, CI, CL, C01, aftC_v, aftC_n, true_or, or_true, true_and, and_true, inS_n, inS_c, pI_c, pL_c, pA_c, pV_c, pE_c, pQ_s, pQ_n, pQ_r, cm_eq', cm_ne', cm_lt', cm_ge', cm_gt', cm_le', List.getD_cons_zero, List.getD_cons_succ, Nat.reduceAdd, Nat.reduceBEq, Bool.false_or, Bool.or_false, Bool.true_or, Int.reduceToNat, s_iload, s_lload, s_aload, s_istore, s_astore, s_lstore, s_iconst, s_sipush, s_aconst_null, s_iadd, s_isub, s_imul, s_iand, s_ior, s_ixor, s_idiv, s_irem, s_ishl, s_ishr, s_iushr, s_ladd, s_lsub, s_land, s_lor, s_lxor, s_lneg, s_lshl, s_lshr, s_lushr, s_i2l, s_l2i, s_lcmp, s_dup, s_pop, s_dup2, s_i2c, s_i2s, s_monitorenter, s_ifCond, s_if_icmp, s_ifnull, s_goto, s_iinc, s_tableswitch, s_ireturn, s_freturn, s_lreturn, s_areturn, s_return_, s_ldc, s_getfield, s_putfield, s_iaload, s_iastore, s_laload, s_lastore, s_baload, s_bastore, s_aaload, s_aastore, s_arraylength, s_newarray, s_anewarray, s_new, s_invokestatic, s_invokespecial, s_invokevirtual, fvl_0, fvl_1, fvl_2, fvl_3, fp_0, fp_1, fp_2, fp_3, rf_s, rf_n, isRf_b, knw_b, isLg_b, popA_0, popA_s, st1_0, st1_s, st2_e, set_0, set_s, aftC_e, hxP_s, hxP_n, iteF, iteT, bft, im_t, im_f, nt_f, nt_t, Nat.reduceDiv, Nat.reduceMod, Nat.reduceLeDiff, Nat.reduceLT, Nat.reduceEqDiff, List.length_cons, List.length_nil, Nat.zero_add, Nat.reduceSub, List.cons_append, List.nil_append, ak_i, az_i, ar_i, al_i, ai_i, ak_l, az_l, ar_l, al_l, ai_l, ak_r, az_r, ar_r, al_r, ai_r, pk_m1, reduceCtorEq, msk_tb, mskL, Bool.and_eq_true, decide_eq_true_eq, lg_0, lg_t, lg_g, lg_e, lg_l, tb_z, Nat.mod_eq_of_lt, lN_1s, and_ze, brT, brF, brN, vpT, a4095, a63, nI_e, nI_l', nI_t', dif_z, and_z, and_zr, lN_e, nI_clamp, nx_shr, Nat.reducePow, bI_0, bI_1, bI_z, bI_o, bI_or, n01, nI_add, pk_mul, nx_and, nx_or, nx_dif, lx_and, lx_or, lx_dif, Bool.not_eq_true, Bool.not_eq_false, Bool.true_eq_false, Bool.false_eq_true, k, n1, n2, if_false, ak_n, if_true, aK_i, an_n, an_r, an_i, ofN]
  exact K
def hR1 (h : AH) (r : Nat) : AH := ap_r (hH (ap_n h 5 0 9) (ah_n h)) r 0 (some (ah_n h))
def hR4 (h : AH) (r : Nat) : AH := hL (hL (hL (hR1 h r) r 1) r 2) r 3
def hR5 (h : AH) (r : Nat) : AH := ap_r (hS (ap_n (hR4 h r) 10 0 5) (ah_n (hR4 h r))) r 4 (some (ah_n (hR4 h r)))
def hNw (h : AH) (r : Nat) : AH := hA (hA (hR5 h r) r 5) r 6
theorem c_230 (k : ah_k h r = 8) (l : r < ah_n h) : TC sc (d + 3) 230 [.ref r] h Q ↔ Q (.inl none) (hNw h r) := TC_of (fun Q hq => by
  have e0 : (r = ah_n h) = False := eq_false (by omega)
  have ej : ∀ j, (r = ah_n h + j) = False := fun j => eq_false (by omega)
  have k1 : ah_k (hR1 h r) r = 8 ∧ ah_n (hR1 h r) = ah_n h + 3 := ⟨by
    unfold hR1 hH hE
    simp only [ak_r, ak_i, ak_n, an_n, an_r, an_i, e0, ej, if_false, k, Nat.add_assoc, Nat.reduceAdd], rfl⟩
  have kL : ∀ (h : AH) f, ah_k h r = 8 → r < ah_n h → ah_k (hL h r f) r = 8 ∧ ah_n (hL h r f) = ah_n h + 2 := fun h f k l => ⟨by
    have e0 : (r = ah_n h) = False := eq_false (by omega)
    have ej : ∀ j, (r = ah_n h + j) = False := fun j => eq_false (by omega)
    unfold hL hE
    simp only [ak_r, ak_i, ak_n, an_n, an_r, an_i, e0, ej, if_false, k, Nat.add_assoc, Nat.reduceAdd], rfl⟩
  have k2 := kL _ 1 k1.1 (by omega)
  have k3 := kL _ 2 k2.1 (by omega)
  have k4 := kL _ 3 k3.1 (by omega)
  obtain ⟨k1, l1⟩ := k1
  obtain ⟨k2, l2⟩ := k2
  obtain ⟨k3, l3⟩ := k3
  obtain ⟨k4, l4⟩ := k4
  have k5 : ah_k (hR5 h r) r = 8 ∧ r < ah_n (hR5 h r) := by
    have kk : ah_k (hR4 h r) r = 8 := k4
    have ll : r < ah_n (hR4 h r) := by
      show r < ah_n (hL (hL (hL (hR1 h r) r 1) r 2) r 3)
      omega
    unfold hR5
    generalize hR4 h r = H at kk ll
    have e0 : (r = ah_n H) = False := eq_false (by omega)
    have ej : ∀ j, (r = ah_n H + j) = False := fun j => eq_false (by omega)
    refine ⟨?_, ?_⟩
    · unfold hS hE
      simp only [ak_r, ak_i, ak_n, an_n, an_r, an_i, e0, ej, if_false, kk, Nat.add_assoc, Nat.reduceAdd]
    · exact Nat.lt_of_lt_of_le ll (Nat.le_add_right _ 4)
  have q1 : r < ah_n (hR1 h r) := by omega
  have q2 : r < ah_n (hL (hR1 h r) r 1) := by omega
  have q3 : r < ah_n (hL (hL (hR1 h r) r 1) r 2) := by omega
  have q4 : r < ah_n (hL (hL (hL (hR1 h r) r 1) r 2) r 3) := by omega
  exact s_230a k l (s_230l (Or.inl ⟨rfl, rfl⟩) k1 q1 (s_230l (Or.inr (Or.inl ⟨rfl, rfl⟩)) k2 q2 (s_230l (Or.inr (Or.inr ⟨rfl, rfl⟩)) k3 q3 (s_230s k4 q4 (s_230e k5.1 k5.2 hq)))))) Q
def E0 : RW := (0, fun _ => 0, fun _ => 0, fun _ _ => 0, fun _ _ => 0, fun _ _ => 0, fun _ => 0, fun _ => false, fun _ => 0, fun _ => 0, false, 0, 0)
theorem E0_ok : R_ok 0 E0 := ⟨Nat.zero_le _, fun _ _ => Nat.zero_le _, Nat.zero_le _, fun _ _ _ h => absurd h (Nat.not_lt_zero _), fun _ h => absurd h (Nat.not_lt_zero _), fun _ _ _ h => absurd h (Nat.not_lt_zero _), fun _ _ h => Bool.noConfusion (show false = true from h), fun h => absurd (show 0 = 1 from h) (by decide), fun h => absurd (show 0 = 2 from h) (by decide), fun h => absurd (show 0 = 3 from h) (by decide), fun _ => rfl, fun _ => rfl⟩
theorem au_i {h : AH} {a k : Nat} {v : Int32} : ah_u (ap_i h a k v) = ah_u h := rfl
theorem au_r {h : AH} {a k : Nat} {v : Option Nat} : ah_u (ap_r h a k v) = ah_u h := rfl
theorem hNw_n {h0 : AH} {us : Nat} : ah_n (hNw (ap_n h0 8 0 us) (ah_n h0)) = ah_n h0 + 16 ∧ ah_u (hNw (ap_n h0 8 0 us) (ah_n h0)) = ah_u h0 + us + 61 := ⟨rfl, by
  unfold hNw hA hR5 hS hR4 hL hR1 hH hE
  simp only [au_i, au_r, au_n, Nat.add_assoc, Nat.reduceAdd]⟩
theorem hNw_f {h0 : AH} {us r : Nat} (hr : ah_n h0 = r) : RSh (hNw (ap_n h0 8 0 us) r) r ∧ RCo (hNw (ap_n h0 8 0 us) r) r E0 := by
  have lt : ∀ j, (r = r + (j + 1)) = False := fun j => eq_false (by omega)
  have gt : ∀ j, (r + (j + 1) = r) = False := fun j => eq_false (by omega)
  constructor
  · unfold RSh
    refine ⟨?_, ?_, ?_, ?_, ?_, ?_, ?_, ?_, ?_, ?_, ?_, ?_, ?_, ?_, ?_, ?_, ?_, ?_, ?_, fun l hl => ?_⟩
    case' refine_20 =>
      have : l = 0 ∨ l = 1 ∨ l = 2 ∨ l = 3 ∨ l = 4 := by omega
      unfold ESh
      rcases this with rfl | rfl | rfl | rfl | rfl
    all_goals
      unfold hNw hA hR5 hS hR4 hL hR1 hH hE
      simp only [eO, ak_i, ak_r, ak_n, az_i, az_r, az_n, ar_i, ar_r, ar_n, an_i, an_r, an_n, hr, Nat.add_assoc, Nat.reduceAdd, Nat.reduceEqDiff, Nat.add_left_cancel_iff, lt, gt, false_and, and_false, true_and, and_true, and_self, if_true, if_false]
  · have e0 : msk 4 (R_il E0) = 0 := (msk_z _ _).mpr fun _ _ => rfl
    refine ⟨?_, fun z => absurd (show 0 = 1 from z) (by decide), fun z => absurd (show 0 = 2 from z) (by decide), fun z => absurd (show 0 = 3 from z) (by decide), fun l hl => ⟨?_, ?_, fun k hk => absurd hk (Nat.not_lt_zero _)⟩, ?_, fun z => Bool.noConfusion (show false = true from z), fun k hk => absurd hk (Nat.not_lt_zero _), ?_, fun v hv z => Bool.noConfusion (show false = true from z)⟩
    · show _ = nI 0
      unfold hNw hA hR5 hS hR4 hL hR1 hH hE
      simp only [ai_i, ai_r, ai_nw, an_i, an_r, an_n, hr, Nat.add_assoc, Nat.reduceAdd, Nat.reduceEqDiff, Nat.add_left_cancel_iff, lt, gt, false_and, and_false, true_and, and_true, and_self, if_true, if_false]
    · have : l = 0 ∨ l = 1 ∨ l = 2 ∨ l = 3 ∨ l = 4 := by omega
      rcases this with rfl | rfl | rfl | rfl | rfl <;> unfold hNw hA hR5 hS hR4 hL hR1 hH hE <;>
      simp only [eO, ai_i, ai_r, ai_nw, an_i, an_r, an_n, hr, Nat.add_assoc, Nat.reduceAdd, Nat.reduceEqDiff, Nat.add_left_cancel_iff, lt, gt, false_and, and_false, true_and, and_true, and_self, if_true, if_false]
    · show _ = nI 0
      have : l = 0 ∨ l = 1 ∨ l = 2 ∨ l = 3 ∨ l = 4 := by omega
      rcases this with rfl | rfl | rfl | rfl | rfl <;> unfold hNw hA hR5 hS hR4 hL hR1 hH hE <;>
      simp only [eO, ai_i, ai_r, ai_nw, an_i, an_r, an_n, hr, Nat.add_assoc, Nat.reduceAdd, Nat.reduceEqDiff, Nat.add_left_cancel_iff, lt, gt, false_and, and_false, true_and, and_true, and_self, if_true, if_false] <;> rfl
    · show _ = bI false
      unfold hNw hA hR5 hS hR4 hL hR1 hH hE
      simp only [ai_i, ai_r, ai_nw, an_i, an_r, an_n, hr, Nat.add_assoc, Nat.reduceAdd, Nat.reduceEqDiff, Nat.add_left_cancel_iff, lt, gt, false_and, and_false, true_and, and_true, and_self, if_true, if_false]
      rfl
    · rw [e0]
      unfold hNw hA hR5 hS hR4 hL hR1 hH hE
      simp only [ai_i, ai_r, ai_nw, an_i, an_r, an_n, hr, Nat.add_assoc, Nat.reduceAdd, Nat.reduceEqDiff, Nat.add_left_cancel_iff, lt, gt, false_and, and_false, true_and, and_true, and_self, if_true, if_false]
      rfl
theorem hNw_g {h0 : AH} {us r : Nat} (hr : ah_n h0 = r) : AG r h0 (hNw (ap_n h0 8 0 us) r) := fun a ha => by
  have na : ∀ j, (a = r + j) = False := fun j => eq_false (by omega)
  have na0 : (a = r) = False := eq_false (by omega)
  refine ⟨?_, ?_, fun k => ⟨?_, ?_, ?_⟩⟩ <;> unfold hNw hA hR5 hS hR4 hL hR1 hH hE <;>
  simp only [ak_i, ak_r, ak_n, az_i, az_r, az_n, ar_i, ar_r, ar_n, al_i, al_r, al_n, ai_i, ai_r, ai_nw, an_i, an_r, an_n, hr, Nat.add_assoc, na, na0, false_and, if_false]
end CLS
