/-! STABILITY IN THE CLASS -/
section CLS
variable {sc : (Nat → Int32) × Nat} {d : Nat} {h : AH} {Q : Rs → AH → Prop} {P : PG}
/-- the smaller set hinders not -/
def lst (P : PG) (T F s : Nat) : Prop := ∀ t, t &&& s = t → t ≠ s → ¬ (dif (T ||| F &&& s) t = 0 ∧ msk (P_m P) (usa2 P t s) = 0)
theorem d_241 (c : CP h P) {A T F s : Nat} (x : EX h (P_n P) A T F) (hs : s < 2 ^ P_n P) : TC sc (d + 3) 241 [.ref 45, .int (nI s)] h Q ↔ Q (.inl (some (.int (bI (bP (lst P T F s)))))) h := TC_of (fun Q hq => by
  have := c.n
  have := c.m
  have hs2 := Nat.lt_of_lt_of_le hs c.pn
  have hN : T ||| F &&& s < 2 ^ 12 := or_lt (Nat.lt_of_lt_of_le x.2.2.2.2.1 c.pn) (Nat.lt_of_lt_of_le (and_lt x.2.2.2.2.2) c.pn)
  have pl := pop_le s 12
  have lp : ∀ j t, rk s t 12 = j → t &&& s = t → (∀ u, u &&& s = u → rk s t 12 ≤ rk s u 12 → u ≠ s → ¬ (dif (T ||| F &&& s) u = 0 ∧ msk (P_m P) (usa2 P u s) = 0)) →
      TT sc (d + 2) 241 Q 12 [.ref 45, .int (nI s), .int (nI (T ||| F &&& s)), .int (nI t), .int (nI (j + 1))] [] h := by
    intro j
    induction j with
    | zero =>
      intro t hr ht H
      have t0 := wk_z hs2 ht hr
      subst t0
      refine wx_sound (S := [12]) 60 true _ _ _ _ ?_
      simp +contextual (disch := omega) only [K241, wx_t, wx_g, wJ_t, wJ_f, wI_s, CI, CL, C01, aftC_v, aftC_n, true_or, or_true, true_and, and_true, inS_n, inS_c, pI_c, pL_c, pA_c, pV_c, pE_c, pQ_s, pQ_n, pQ_r, cm_eq', cm_ne', cm_lt', cm_ge', cm_gt', cm_le', List.getD_cons_zero, List.getD_cons_succ, Nat.reduceAdd, Nat.reduceBEq, Bool.false_or, Bool.or_false, Bool.true_or, Int.reduceToNat, s_iload, s_lload, s_aload, s_istore, s_astore, s_lstore, s_iconst, s_sipush, s_aconst_null, s_iadd, s_isub, s_imul, s_iand, s_ior, s_ixor, s_idiv, s_irem, s_ishl, s_ishr, s_iushr, s_ladd, s_lsub, s_land, s_lor, s_lxor, s_lneg, s_lshl, s_lshr, s_lushr, s_i2l, s_l2i, s_lcmp, s_dup, s_pop, s_dup2, s_i2c, s_i2s, s_monitorenter, s_ifCond, s_if_icmp, s_ifnull, s_goto, s_iinc, s_tableswitch, s_ireturn, s_freturn, s_lreturn, s_areturn, s_return_, s_ldc, s_getfield, s_putfield, s_iaload, s_iastore, s_laload, s_lastore, s_baload, s_bastore, s_aaload, s_aastore, s_arraylength, s_newarray, s_anewarray, s_new, s_invokestatic, s_invokespecial, s_invokevirtual, fvl_0, fvl_1, fvl_2, fvl_3, fp_0, fp_1, fp_2, fp_3, rf_s, rf_n, isRf_b, knw_b, isLg_b, popA_0, popA_s, st1_0, st1_s, st2_e, set_0, set_s, aftC_e, hxP_s, hxP_n, iteF, iteT, bft, im_t, im_f, nt_f, nt_t, Nat.reduceDiv, Nat.reduceMod, Nat.reduceLeDiff, Nat.reduceLT, Nat.reduceEqDiff, List.length_cons, List.length_nil, Nat.zero_add, Nat.reduceSub, List.cons_append, List.nil_append, ak_i, az_i, ar_i, al_i, ai_i, ak_l, az_l, ar_l, al_l, ai_l, ak_r, az_r, ar_r, al_r, ai_r, pk_m1, reduceCtorEq, msk_tb, mskL, Bool.and_eq_true, decide_eq_true_eq, lg_0, lg_t, lg_g, lg_e, lg_l, tb_z, Nat.mod_eq_of_lt, lN_1s, and_ze, brT, brF, brN, vpT, a4095, a63, nI_e, nI_l', nI_t', dif_z, and_z, and_zr, lN_e, nI_clamp, nx_shr, Nat.reducePow, bI_0, bI_1, bI_z, bI_o, bI_or, n01, nI_add, pk_mul, nx_and, nx_or, nx_dif, lx_and, lx_or, lx_dif, Bool.not_eq_true, Bool.not_eq_false, Bool.true_eq_false, Bool.false_eq_true, ss_45 c.1, ss_27 c.1]
      refine lfI hq ?_
      rw [bP_of (p := lst P T F s) (fun u hu hn => H u hu (by rw [hr]; omega) hn)]
      rfl
    | succ j ih =>
      intro t hr ht H
      have t0 : t ≠ 0 := by rintro rfl; rw [rk_0] at hr; omega
      have tl : t < 2 ^ 12 := Nat.lt_of_le_of_lt (ht ▸ Nat.and_le_right) hs2
      have e := rk_pred (n := 12) tl t0 (sub_tb.mp ht)
      have hs3 : (t - 1) &&& s < 2 ^ P_n P := Nat.lt_of_le_of_lt Nat.and_le_right hs
      have lj : j < 4096 := by
        have := rk_lt s t 12
        have := p2_le (n := 12) pl
        omega
      have p1 : nI t - nI 1 = nI (t - 1) := pk_sub (by omega)
      refine wx_sound (S := [12]) 60 true _ _ _ _ ?_
      simp +contextual (disch := omega) only [K241, wx_t, wx_g, wJ_t, wJ_f, wI_s, CI, CL, C01, aftC_v, aftC_n, true_or, or_true, true_and, and_true, inS_n, inS_c, pI_c, pL_c, pA_c, pV_c, pE_c, pQ_s, pQ_n, pQ_r, cm_eq', cm_ne', cm_lt', cm_ge', cm_gt', cm_le', List.getD_cons_zero, List.getD_cons_succ, Nat.reduceAdd, Nat.reduceBEq, Bool.false_or, Bool.or_false, Bool.true_or, Int.reduceToNat, s_iload, s_lload, s_aload, s_istore, s_astore, s_lstore, s_iconst, s_sipush, s_aconst_null, s_iadd, s_isub, s_imul, s_iand, s_ior, s_ixor, s_idiv, s_irem, s_ishl, s_ishr, s_iushr, s_ladd, s_lsub, s_land, s_lor, s_lxor, s_lneg, s_lshl, s_lshr, s_lushr, s_i2l, s_l2i, s_lcmp, s_dup, s_pop, s_dup2, s_i2c, s_i2s, s_monitorenter, s_ifCond, s_if_icmp, s_ifnull, s_goto, s_iinc, s_tableswitch, s_ireturn, s_freturn, s_lreturn, s_areturn, s_return_, s_ldc, s_getfield, s_putfield, s_iaload, s_iastore, s_laload, s_lastore, s_baload, s_bastore, s_aaload, s_aastore, s_arraylength, s_newarray, s_anewarray, s_new, s_invokestatic, s_invokespecial, s_invokevirtual, fvl_0, fvl_1, fvl_2, fvl_3, fp_0, fp_1, fp_2, fp_3, rf_s, rf_n, isRf_b, knw_b, isLg_b, popA_0, popA_s, st1_0, st1_s, st2_e, set_0, set_s, aftC_e, hxP_s, hxP_n, iteF, iteT, bft, im_t, im_f, nt_f, nt_t, Nat.reduceDiv, Nat.reduceMod, Nat.reduceLeDiff, Nat.reduceLT, Nat.reduceEqDiff, List.length_cons, List.length_nil, Nat.zero_add, Nat.reduceSub, List.cons_append, List.nil_append, ak_i, az_i, ar_i, al_i, ai_i, ak_l, az_l, ar_l, al_l, ai_l, ak_r, az_r, ar_r, al_r, ai_r, pk_m1, reduceCtorEq, msk_tb, mskL, Bool.and_eq_true, decide_eq_true_eq, lg_0, lg_t, lg_g, lg_e, lg_l, tb_z, Nat.mod_eq_of_lt, lN_1s, and_ze, brT, brF, brN, vpT, a4095, a63, nI_e, nI_l', nI_t', dif_z, and_z, and_zr, lN_e, nI_clamp, nx_shr, Nat.reducePow, bI_0, bI_1, bI_z, bI_o, bI_or, n01, nI_add, pk_mul, nx_and, nx_or, nx_dif, lx_and, lx_or, lx_dif, Bool.not_eq_true, Bool.not_eq_false, Bool.true_eq_false, Bool.false_eq_true, ss_0 c.1, ss_19 c.1, ss_23 c.1, ss_27 c.1, ss_28 c.1, ss_31 c.1, ss_43 c.1, ss_45 c.1, ss_46 c.1, ss_49 c.1, p1, d_224 c hs3 hs]
      have nx : TT sc (d + 2) 241 Q 12 [.ref 45, .int (nI s), .int (nI (T ||| F &&& s)), .int (nI (t - 1 &&& s)), .int (nI (j + 1))] [] h ∨ (dif (T ||| F &&& s) (t - 1 &&& s) = 0 ∧ msk (P_m P) (usa2 P (t - 1 &&& s) s) = 0) := by
        by_cases q : (dif (T ||| F &&& s) (t - 1 &&& s) = 0 ∧ msk (P_m P) (usa2 P (t - 1 &&& s) s) = 0)
        · exact Or.inr q
        · refine Or.inl (ih _ (by omega) (by rw [Nat.and_assoc, Nat.and_self]) ?_)
          exact wk_s (p := fun u => ¬ (dif (T ||| F &&& s) u = 0 ∧ msk (P_m P) (usa2 P u s) = 0)) hs2 ht t0 H q
      refine And.intro (fun e1 => And.intro (fun e2 => ?_) fun e2 => ?_) fun e1 => ?_
      · refine lf0 hq (bP_no fun q => ?_)
        refine q (t - 1 &&& s) (by rw [Nat.and_assoc, Nat.and_self]) ?_ ⟨e1, e2⟩
        intro q2
        have l1 := rk_lt s s 12
        have f : rk s s 12 + 1 = 2 ^ pop s 12 := rk_full fun i _ h => h
        have l2 := rk_lt s t 12
        rw [q2] at e
        omega
      · exact nx.elim id fun q => absurd q.2 e2
      · exact nx.elim id fun q => absurd q.1 e1
  refine TC_e (ls := [.ref 45, .int (nI s), unk, unk, unk]) (Nat.le_of_ble_eq_true rfl) rfl (wx_sound (S := [12]) 60 true _ _ _ _ ?_)
  simp +contextual (disch := omega) only [K241, wx_t, wx_g, wJ_t, wJ_f, wI_s, CI, CL, C01, aftC_v, aftC_n, true_or, or_true, true_and, and_true, inS_n, inS_c, pI_c, pL_c, pA_c, pV_c, pE_c, pQ_s, pQ_n, pQ_r, cm_eq', cm_ne', cm_lt', cm_ge', cm_gt', cm_le', List.getD_cons_zero, List.getD_cons_succ, Nat.reduceAdd, Nat.reduceBEq, Bool.false_or, Bool.or_false, Bool.true_or, Int.reduceToNat, s_iload, s_lload, s_aload, s_istore, s_astore, s_lstore, s_iconst, s_sipush, s_aconst_null, s_iadd, s_isub, s_imul, s_iand, s_ior, s_ixor, s_idiv, s_irem, s_ishl, s_ishr, s_iushr, s_ladd, s_lsub, s_land, s_lor, s_lxor, s_lneg, s_lshl, s_lshr, s_lushr, s_i2l, s_l2i, s_lcmp, s_dup, s_pop, s_dup2, s_i2c, s_i2s, s_monitorenter, s_ifCond, s_if_icmp, s_ifnull, s_goto, s_iinc, s_tableswitch, s_ireturn, s_freturn, s_lreturn, s_areturn, s_return_, s_ldc, s_getfield, s_putfield, s_iaload, s_iastore, s_laload, s_lastore, s_baload, s_bastore, s_aaload, s_aastore, s_arraylength, s_newarray, s_anewarray, s_new, s_invokestatic, s_invokespecial, s_invokevirtual, fvl_0, fvl_1, fvl_2, fvl_3, fp_0, fp_1, fp_2, fp_3, rf_s, rf_n, isRf_b, knw_b, isLg_b, popA_0, popA_s, st1_0, st1_s, st2_e, set_0, set_s, aftC_e, hxP_s, hxP_n, iteF, iteT, bft, im_t, im_f, nt_f, nt_t, Nat.reduceDiv, Nat.reduceMod, Nat.reduceLeDiff, Nat.reduceLT, Nat.reduceEqDiff, List.length_cons, List.length_nil, Nat.zero_add, Nat.reduceSub, List.cons_append, List.nil_append, ak_i, az_i, ar_i, al_i, ai_i, ak_l, az_l, ar_l, al_l, ai_l, ak_r, az_r, ar_r, al_r, ai_r, pk_m1, reduceCtorEq, msk_tb, mskL, Bool.and_eq_true, decide_eq_true_eq, lg_0, lg_t, lg_g, lg_e, lg_l, tb_z, Nat.mod_eq_of_lt, lN_1s, and_ze, brT, brF, brN, vpT, a4095, a63, nI_e, nI_l', nI_t', dif_z, and_z, and_zr, lN_e, nI_clamp, nx_shr, Nat.reducePow, bI_0, bI_1, bI_z, bI_o, bI_or, n01, nI_add, pk_mul, nx_and, nx_or, nx_dif, lx_and, lx_or, lx_dif, Bool.not_eq_true, Bool.not_eq_false, Bool.true_eq_false, Bool.false_eq_true, ss_45 c.1, ss_27 c.1, d_176 c.1 x, d_278 s hs2, nx_bit]
  have f : rk s s 12 + 1 = 2 ^ pop s 12 := rk_full fun i _ h => h
  rw [← f]
  exact lp _ s rfl (Nat.and_self s) (wk_0 hs2)) Q
theorem d_243 (x : Nat) (hx : x < 2 ^ 62) : TC sc (d + 2) 243 [.long (lN x)] h Q ↔ Q (.inl (some (.long (if x = 0 then lN 0 else if (decide (¬ x = 0) && decide (x &&& (x - 1) = 0)) = true then lN x ^^^ (-1) else -1)))) h := TC_of (fun Q hq => by
  refine TC_e (ls := [.long (lN x), unk]) (Nat.le_of_ble_eq_true rfl) rfl (wx_sound (S := []) 60 true _ _ _ _ ?_)
  simp +contextual (disch := omega) only [K243, wx_t, wx_g, wJ_t, wJ_f, wI_s, CI, CL, C01, aftC_v, aftC_n, true_or, or_true, true_and, and_true, inS_n, inS_c, pI_c, pL_c, pA_c, pV_c, pE_c, pQ_s, pQ_n, pQ_r, cm_eq', cm_ne', cm_lt', cm_ge', cm_gt', cm_le', List.getD_cons_zero, List.getD_cons_succ, Nat.reduceAdd, Nat.reduceBEq, Bool.false_or, Bool.or_false, Bool.true_or, Int.reduceToNat, s_iload, s_lload, s_aload, s_istore, s_astore, s_lstore, s_iconst, s_sipush, s_aconst_null, s_iadd, s_isub, s_imul, s_iand, s_ior, s_ixor, s_idiv, s_irem, s_ishl, s_ishr, s_iushr, s_ladd, s_lsub, s_land, s_lor, s_lxor, s_lneg, s_lshl, s_lshr, s_lushr, s_i2l, s_l2i, s_lcmp, s_dup, s_pop, s_dup2, s_i2c, s_i2s, s_monitorenter, s_ifCond, s_if_icmp, s_ifnull, s_goto, s_iinc, s_tableswitch, s_ireturn, s_freturn, s_lreturn, s_areturn, s_return_, s_ldc, s_getfield, s_putfield, s_iaload, s_iastore, s_laload, s_lastore, s_baload, s_bastore, s_aaload, s_aastore, s_arraylength, s_newarray, s_anewarray, s_new, s_invokestatic, s_invokespecial, s_invokevirtual, fvl_0, fvl_1, fvl_2, fvl_3, fp_0, fp_1, fp_2, fp_3, rf_s, rf_n, isRf_b, knw_b, isLg_b, popA_0, popA_s, st1_0, st1_s, st2_e, set_0, set_s, aftC_e, hxP_s, hxP_n, iteF, iteT, bft, im_t, im_f, nt_f, nt_t, Nat.reduceDiv, Nat.reduceMod, Nat.reduceLeDiff, Nat.reduceLT, Nat.reduceEqDiff, List.length_cons, List.length_nil, Nat.zero_add, Nat.reduceSub, List.cons_append, List.nil_append, ak_i, az_i, ar_i, al_i, ai_i, ak_l, az_l, ar_l, al_l, ai_l, ak_r, az_r, ar_r, al_r, ai_r, pk_m1, reduceCtorEq, msk_tb, mskL, Bool.and_eq_true, decide_eq_true_eq, lg_0, lg_t, lg_g, lg_e, lg_l, tb_z, Nat.mod_eq_of_lt, lN_1s, and_ze, brT, brF, brN, vpT, a4095, a63, nI_e, nI_l', nI_t', dif_z, and_z, and_zr, lN_e, nI_clamp, nx_shr, Nat.reducePow, bI_0, bI_1, bI_z, bI_o, bI_or, n01, nI_add, pk_mul, nx_and, nx_or, nx_dif, lx_and, lx_or, lx_dif, Bool.not_eq_true, Bool.not_eq_false, Bool.true_eq_false, Bool.false_eq_true, c_57 x hx]
  refine And.intro (fun e => ?_) fun e => And.intro (fun e2 => ?_) fun e2 => ?_
  · rw [if_pos e] at hq; exact hq
  · rw [if_neg e, if_neg (by simpa [e] using e2)] at hq; exact hq
  · rw [if_neg e, if_pos (by simp [e, e2])] at hq; exact hq) Q
theorem d_245 (c : CP h P) {A T F p s : Nat} (x : EX h (P_n P) A T F) (hs : s < 2 ^ P_n P) : TC sc (d + 3) 245 [.ref 45, .int (nI p), .int (nI s)] h Q ↔ Q (.inl (some (.int (bI (decide ((T ||| F) &&& p = 0) && decide (∀ i, i < P_m P → fou P i p s = false)))))) h := TC_of (fun Q hq => by
  have := c.n
  have := c.m
  have hN : T ||| F < 2 ^ 12 := or_lt (Nat.lt_of_lt_of_le x.2.2.2.2.1 c.pn) (Nat.lt_of_lt_of_le x.2.2.2.2.2 c.pn)
  have lp : (T ||| F) &&& p = 0 → ∀ k, k ≤ P_m P → (∀ i, i < k → fou P i p s = false) → TT sc (d + 2) 245 Q 14 [.ref 45, .int (nI p), .int (nI s), .int (nI k)] [] h := by
    intro z
    refine up_to fun k hk ih H => ?_
    refine wx_sound (S := [14]) 60 true _ _ _ _ ?_
    simp +contextual (disch := omega) only [K245, wx_t, wx_g, wJ_t, wJ_f, wI_s, CI, CL, C01, aftC_v, aftC_n, true_or, or_true, true_and, and_true, inS_n, inS_c, pI_c, pL_c, pA_c, pV_c, pE_c, pQ_s, pQ_n, pQ_r, cm_eq', cm_ne', cm_lt', cm_ge', cm_gt', cm_le', List.getD_cons_zero, List.getD_cons_succ, Nat.reduceAdd, Nat.reduceBEq, Bool.false_or, Bool.or_false, Bool.true_or, Int.reduceToNat, s_iload, s_lload, s_aload, s_istore, s_astore, s_lstore, s_iconst, s_sipush, s_aconst_null, s_iadd, s_isub, s_imul, s_iand, s_ior, s_ixor, s_idiv, s_irem, s_ishl, s_ishr, s_iushr, s_ladd, s_lsub, s_land, s_lor, s_lxor, s_lneg, s_lshl, s_lshr, s_lushr, s_i2l, s_l2i, s_lcmp, s_dup, s_pop, s_dup2, s_i2c, s_i2s, s_monitorenter, s_ifCond, s_if_icmp, s_ifnull, s_goto, s_iinc, s_tableswitch, s_ireturn, s_freturn, s_lreturn, s_areturn, s_return_, s_ldc, s_getfield, s_putfield, s_iaload, s_iastore, s_laload, s_lastore, s_baload, s_bastore, s_aaload, s_aastore, s_arraylength, s_newarray, s_anewarray, s_new, s_invokestatic, s_invokespecial, s_invokevirtual, fvl_0, fvl_1, fvl_2, fvl_3, fp_0, fp_1, fp_2, fp_3, rf_s, rf_n, isRf_b, knw_b, isLg_b, popA_0, popA_s, st1_0, st1_s, st2_e, set_0, set_s, aftC_e, hxP_s, hxP_n, iteF, iteT, bft, im_t, im_f, nt_f, nt_t, Nat.reduceDiv, Nat.reduceMod, Nat.reduceLeDiff, Nat.reduceLT, Nat.reduceEqDiff, List.length_cons, List.length_nil, Nat.zero_add, Nat.reduceSub, List.cons_append, List.nil_append, ak_i, az_i, ar_i, al_i, ai_i, ak_l, az_l, ar_l, al_l, ai_l, ak_r, az_r, ar_r, al_r, ai_r, pk_m1, reduceCtorEq, msk_tb, mskL, Bool.and_eq_true, decide_eq_true_eq, lg_0, lg_t, lg_g, lg_e, lg_l, tb_z, Nat.mod_eq_of_lt, lN_1s, and_ze, brT, brF, brN, vpT, a4095, a63, nI_e, nI_l', nI_t', dif_z, and_z, and_zr, lN_e, nI_clamp, nx_shr, Nat.reducePow, bI_0, bI_1, bI_z, bI_o, bI_or, n01, nI_add, pk_mul, nx_and, nx_or, nx_dif, lx_and, lx_or, lx_dif, Bool.not_eq_true, Bool.not_eq_false, Bool.true_eq_false, Bool.false_eq_true, ss_45 c.1, ss_31 c.1, c.f, d_227 c _ hs]
    refine And.intro (fun e => ?_) fun e => And.intro (fun e2 => ?_) fun e2 => ?_
    · refine lf1 hq ?_
      have : ∀ i, i < P_m P → fou P i p s = false := fun i hi => H i (by omega)
      simp only [z, decide_true, Bool.true_and, decide_eq_true_eq]
      exact this
    · exact ih (by omega) (lt_s H e2)
    · refine lf0 hq ?_
      have : ¬ ∀ i, i < P_m P → fou P i p s = false := fun q => by
        have := q k (by omega)
        rw [e2] at this; cases this
      simp only [this, decide_false, Bool.and_false]
  refine TC_e (ls := [.ref 45, .int (nI p), .int (nI s), unk]) (Nat.le_of_ble_eq_true rfl) rfl (wx_sound (S := [14]) 60 true _ _ _ _ ?_)
  simp +contextual (disch := omega) only [K245, wx_t, wx_g, wJ_t, wJ_f, wI_s, CI, CL, C01, aftC_v, aftC_n, true_or, or_true, true_and, and_true, inS_n, inS_c, pI_c, pL_c, pA_c, pV_c, pE_c, pQ_s, pQ_n, pQ_r, cm_eq', cm_ne', cm_lt', cm_ge', cm_gt', cm_le', List.getD_cons_zero, List.getD_cons_succ, Nat.reduceAdd, Nat.reduceBEq, Bool.false_or, Bool.or_false, Bool.true_or, Int.reduceToNat, s_iload, s_lload, s_aload, s_istore, s_astore, s_lstore, s_iconst, s_sipush, s_aconst_null, s_iadd, s_isub, s_imul, s_iand, s_ior, s_ixor, s_idiv, s_irem, s_ishl, s_ishr, s_iushr, s_ladd, s_lsub, s_land, s_lor, s_lxor, s_lneg, s_lshl, s_lshr, s_lushr, s_i2l, s_l2i, s_lcmp, s_dup, s_pop, s_dup2, s_i2c, s_i2s, s_monitorenter, s_ifCond, s_if_icmp, s_ifnull, s_goto, s_iinc, s_tableswitch, s_ireturn, s_freturn, s_lreturn, s_areturn, s_return_, s_ldc, s_getfield, s_putfield, s_iaload, s_iastore, s_laload, s_lastore, s_baload, s_bastore, s_aaload, s_aastore, s_arraylength, s_newarray, s_anewarray, s_new, s_invokestatic, s_invokespecial, s_invokevirtual, fvl_0, fvl_1, fvl_2, fvl_3, fp_0, fp_1, fp_2, fp_3, rf_s, rf_n, isRf_b, knw_b, isLg_b, popA_0, popA_s, st1_0, st1_s, st2_e, set_0, set_s, aftC_e, hxP_s, hxP_n, iteF, iteT, bft, im_t, im_f, nt_f, nt_t, Nat.reduceDiv, Nat.reduceMod, Nat.reduceLeDiff, Nat.reduceLT, Nat.reduceEqDiff, List.length_cons, List.length_nil, Nat.zero_add, Nat.reduceSub, List.cons_append, List.nil_append, ak_i, az_i, ar_i, al_i, ai_i, ak_l, az_l, ar_l, al_l, ai_l, ak_r, az_r, ar_r, al_r, ai_r, pk_m1, reduceCtorEq, msk_tb, mskL, Bool.and_eq_true, decide_eq_true_eq, lg_0, lg_t, lg_g, lg_e, lg_l, tb_z, Nat.mod_eq_of_lt, lN_1s, and_ze, brT, brF, brN, vpT, a4095, a63, nI_e, nI_l', nI_t', dif_z, and_z, and_zr, lN_e, nI_clamp, nx_shr, Nat.reducePow, bI_0, bI_1, bI_z, bI_o, bI_or, n01, nI_add, pk_mul, nx_and, nx_or, nx_dif, lx_and, lx_or, lx_dif, Bool.not_eq_true, Bool.not_eq_false, Bool.true_eq_false, Bool.false_eq_true, ss_45 c.1, ss_27 c.1, x.2.1, x.2.2.1]
  refine And.intro (fun e => lp e 0 (by omega) fun i hi => absurd hi (by omega)) fun e => lf0 hq (by simp [e])) Q
end CLS
