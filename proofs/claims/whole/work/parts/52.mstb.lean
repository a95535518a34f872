/-! THE REFERENCE: STABLE, NUMBERS, AN ANSWER -/
section MDL
variable {sc : (Nat → Int32) × Nat} {d : Nat} {h : AH} {Q : Rs → AH → Prop} {P : PG} {A T F : Nat}
theorem m_119 (c : MP h P) (x : RMX h (P_n P) A T F) (hF : F < 2 ^ P_n P) : TC sc (d + 1) 119 [.ref 49] h Q ↔ Q (.inl (some (.int (nI F)))) h := TC_of (fun Q hq => by
  have n12 := c.n
  have pn := c.pn
  obtain ⟨x1, x2, x3⟩ := x
  have eF : F = msk (P_n P) fun a => A.testBit a && decide (ah_i h 55 a = nI 2) := eq_msk hF fun i hi => (x3 i hi).2
  have lp : ∀ k, k ≤ P_n P → ∀ y, y = msk (P_n P) (fun a => decide (a < k) && (A.testBit a && decide (ah_i h 55 a = nI 2))) → TT sc d 119 Q 4 [.ref 49, .int (nI y), .int (nI k)] [] h := by
    refine up_to fun k hk ih => ?_
    intro y hy
    by_cases e : k < P_n P
    · refine wx_sound (S := [4]) 60 true _ _ _ _ ?_
      simp +contextual (disch := omega) only [K119, wx_t, wx_g, wJ_t, wJ_f, wI_s, CI, CL, C01, aftC_v, aftC_n, true_or, or_true, true_and, and_true, inS_n, inS_c, pI_c, pL_c, pA_c, pV_c, pE_c, pQ_s, pQ_n, pQ_r, cm_eq', cm_ne', cm_lt', cm_ge', cm_gt', cm_le', List.getD_cons_zero, List.getD_cons_succ, Nat.reduceAdd, Nat.reduceBEq, Bool.false_or, Bool.or_false, Bool.true_or, Int.reduceToNat, s_iload, s_lload, s_aload, s_istore, s_astore, s_lstore, s_iconst, s_sipush, s_aconst_null, s_iadd, s_isub, s_imul, s_iand, s_ior, s_ixor, s_idiv, s_irem, s_ishl, s_ishr, s_iushr, s_ladd, s_lsub, s_land, s_lor, s_lxor, s_lneg, s_lshl, s_lshr, s_lushr, s_i2l, s_l2i, s_lcmp, s_dup, s_pop, s_dup2, s_i2c, s_i2s, s_monitorenter, s_ifCond, s_if_icmp, s_ifnull, s_goto, s_iinc, s_tableswitch, s_ireturn, s_freturn, s_lreturn, s_areturn, s_return_, s_ldc, s_getfield, s_putfield, s_iaload, s_iastore, s_laload, s_lastore, s_baload, s_bastore, s_aaload, s_aastore, s_arraylength, s_newarray, s_anewarray, s_new, s_invokestatic, s_invokespecial, s_invokevirtual, fvl_0, fvl_1, fvl_2, fvl_3, fp_0, fp_1, fp_2, fp_3, rf_s, rf_n, isRf_b, knw_b, isLg_b, popA_0, popA_s, st1_0, st1_s, st2_e, set_0, set_s, aftC_e, hxP_s, hxP_n, iteF, iteT, bft, im_t, im_f, nt_f, nt_t, Nat.reduceDiv, Nat.reduceMod, Nat.reduceLeDiff, Nat.reduceLT, Nat.reduceEqDiff, List.length_cons, List.length_nil, Nat.zero_add, Nat.reduceSub, List.cons_append, List.nil_append, ak_i, az_i, ar_i, al_i, ai_i, ak_l, az_l, ar_l, al_l, ai_l, ak_r, az_r, ar_r, al_r, ai_r, pk_m1, reduceCtorEq, msk_tb, mskL, Bool.and_eq_true, decide_eq_true_eq, lg_0, lg_t, lg_g, lg_e, lg_l, tb_z, Nat.mod_eq_of_lt, lN_1s, and_ze, brT, brF, brN, vpT, a4095, a63, nI_e, nI_l', nI_t', dif_z, and_z, and_zr, lN_e, nI_clamp, nx_shr, Nat.reducePow, bI_0, bI_1, bI_z, bI_o, bI_or, n01, nI_add, pk_mul, nx_and, nx_or, nx_dif, lx_and, lx_or, lx_dif, Bool.not_eq_true, Bool.not_eq_false, Bool.true_eq_false, Bool.false_eq_true, ss_49 c.1, c.f.1, x1, tb_mod, nx_or, nx_bit]
      refine And.intro (fun e1 => And.intro (fun e2 => ih e _ ?_) fun e2 => ?_) fun e1 => ?_
      · rw [hy]; exact msk_nt e (by rw [(bI_1 _).mp e1, e2]; rfl)
      · rw [Nat.or_zero]; refine ih e _ ?_
        rw [hy]; exact msk_nf (by rw [decide_eq_false e2, Bool.and_false])
      · rw [Nat.or_zero]; refine ih e _ ?_
        have : A.testBit k = false := by
          cases q : A.testBit k
          · rfl
          · exact absurd ((bI_1 _).mpr q) e1
        rw [hy]; exact msk_nf (by rw [this, Bool.false_and])
    · have : k = P_n P := by omega
      subst this
      refine wx_sound (S := [4]) 60 true _ _ _ _ ?_
      simp +contextual (disch := omega) only [K119, wx_t, wx_g, wJ_t, wJ_f, wI_s, CI, CL, C01, aftC_v, aftC_n, true_or, or_true, true_and, and_true, inS_n, inS_c, pI_c, pL_c, pA_c, pV_c, pE_c, pQ_s, pQ_n, pQ_r, cm_eq', cm_ne', cm_lt', cm_ge', cm_gt', cm_le', List.getD_cons_zero, List.getD_cons_succ, Nat.reduceAdd, Nat.reduceBEq, Bool.false_or, Bool.or_false, Bool.true_or, Int.reduceToNat, s_iload, s_lload, s_aload, s_istore, s_astore, s_lstore, s_iconst, s_sipush, s_aconst_null, s_iadd, s_isub, s_imul, s_iand, s_ior, s_ixor, s_idiv, s_irem, s_ishl, s_ishr, s_iushr, s_ladd, s_lsub, s_land, s_lor, s_lxor, s_lneg, s_lshl, s_lshr, s_lushr, s_i2l, s_l2i, s_lcmp, s_dup, s_pop, s_dup2, s_i2c, s_i2s, s_monitorenter, s_ifCond, s_if_icmp, s_ifnull, s_goto, s_iinc, s_tableswitch, s_ireturn, s_freturn, s_lreturn, s_areturn, s_return_, s_ldc, s_getfield, s_putfield, s_iaload, s_iastore, s_laload, s_lastore, s_baload, s_bastore, s_aaload, s_aastore, s_arraylength, s_newarray, s_anewarray, s_new, s_invokestatic, s_invokespecial, s_invokevirtual, fvl_0, fvl_1, fvl_2, fvl_3, fp_0, fp_1, fp_2, fp_3, rf_s, rf_n, isRf_b, knw_b, isLg_b, popA_0, popA_s, st1_0, st1_s, st2_e, set_0, set_s, aftC_e, hxP_s, hxP_n, iteF, iteT, bft, im_t, im_f, nt_f, nt_t, Nat.reduceDiv, Nat.reduceMod, Nat.reduceLeDiff, Nat.reduceLT, Nat.reduceEqDiff, List.length_cons, List.length_nil, Nat.zero_add, Nat.reduceSub, List.cons_append, List.nil_append, ak_i, az_i, ar_i, al_i, ai_i, ak_l, az_l, ar_l, al_l, ai_l, ak_r, az_r, ar_r, al_r, ai_r, pk_m1, reduceCtorEq, msk_tb, mskL, Bool.and_eq_true, decide_eq_true_eq, lg_0, lg_t, lg_g, lg_e, lg_l, tb_z, Nat.mod_eq_of_lt, lN_1s, and_ze, brT, brF, brN, vpT, a4095, a63, nI_e, nI_l', nI_t', dif_z, and_z, and_zr, lN_e, nI_clamp, nx_shr, Nat.reducePow, bI_0, bI_1, bI_z, bI_o, bI_or, n01, nI_add, pk_mul, nx_and, nx_or, nx_dif, lx_and, lx_or, lx_dif, Bool.not_eq_true, Bool.not_eq_false, Bool.true_eq_false, Bool.false_eq_true, ss_49 c.1, c.f.1]
      rw [msk_nd (Nat.le_refl _), ← eF] at hy
      rw [hy]
      exact hq
  refine TC_e (ls := [.ref 49, unk, unk]) (Nat.le_of_ble_eq_true rfl) rfl (wx_sound (S := [4]) 60 true _ _ _ _ ?_)
  simp +contextual (disch := omega) only [K119, wx_t, wx_g, wJ_t, wJ_f, wI_s, CI, CL, C01, aftC_v, aftC_n, true_or, or_true, true_and, and_true, inS_n, inS_c, pI_c, pL_c, pA_c, pV_c, pE_c, pQ_s, pQ_n, pQ_r, cm_eq', cm_ne', cm_lt', cm_ge', cm_gt', cm_le', List.getD_cons_zero, List.getD_cons_succ, Nat.reduceAdd, Nat.reduceBEq, Bool.false_or, Bool.or_false, Bool.true_or, Int.reduceToNat, s_iload, s_lload, s_aload, s_istore, s_astore, s_lstore, s_iconst, s_sipush, s_aconst_null, s_iadd, s_isub, s_imul, s_iand, s_ior, s_ixor, s_idiv, s_irem, s_ishl, s_ishr, s_iushr, s_ladd, s_lsub, s_land, s_lor, s_lxor, s_lneg, s_lshl, s_lshr, s_lushr, s_i2l, s_l2i, s_lcmp, s_dup, s_pop, s_dup2, s_i2c, s_i2s, s_monitorenter, s_ifCond, s_if_icmp, s_ifnull, s_goto, s_iinc, s_tableswitch, s_ireturn, s_freturn, s_lreturn, s_areturn, s_return_, s_ldc, s_getfield, s_putfield, s_iaload, s_iastore, s_laload, s_lastore, s_baload, s_bastore, s_aaload, s_aastore, s_arraylength, s_newarray, s_anewarray, s_new, s_invokestatic, s_invokespecial, s_invokevirtual, fvl_0, fvl_1, fvl_2, fvl_3, fp_0, fp_1, fp_2, fp_3, rf_s, rf_n, isRf_b, knw_b, isLg_b, popA_0, popA_s, st1_0, st1_s, st2_e, set_0, set_s, aftC_e, hxP_s, hxP_n, iteF, iteT, bft, im_t, im_f, nt_f, nt_t, Nat.reduceDiv, Nat.reduceMod, Nat.reduceLeDiff, Nat.reduceLT, Nat.reduceEqDiff, List.length_cons, List.length_nil, Nat.zero_add, Nat.reduceSub, List.cons_append, List.nil_append, ak_i, az_i, ar_i, al_i, ai_i, ak_l, az_l, ar_l, al_l, ai_l, ak_r, az_r, ar_r, al_r, ai_r, pk_m1, reduceCtorEq, msk_tb, mskL, Bool.and_eq_true, decide_eq_true_eq, lg_0, lg_t, lg_g, lg_e, lg_l, tb_z, Nat.mod_eq_of_lt, lN_1s, and_ze, brT, brF, brN, vpT, a4095, a63, nI_e, nI_l', nI_t', dif_z, and_z, and_zr, lN_e, nI_clamp, nx_shr, Nat.reducePow, bI_0, bI_1, bI_z, bI_o, bI_or, n01, nI_add, pk_mul, nx_and, nx_or, nx_dif, lx_and, lx_or, lx_dif, Bool.not_eq_true, Bool.not_eq_false, Bool.true_eq_false, Bool.false_eq_true]
  exact lp 0 (Nat.zero_le _) _ msk_n0) Q
theorem m_121 (c : MP h P) {w : Int32} {s t : Nat} (l : LFT h (lfg P w s) (P_m P)) (hs : s < 2 ^ P_n P) (ht : t < 2 ^ P_n P) (hts : t &&& s = t) : TC sc (d + 2) 121 [.ref 49, .int (nI t), .int (nI s)] h Q ↔ Q (.inl (some (.int (bI (bP (∀ i, i < P_m P → lfg P w s i = true → usa2 P t s i = false)))))) h := TC_of (fun Q hq => by
  have m60 := c.m
  have n12 := c.n
  have pn := c.pn
  obtain ⟨l1, l2⟩ := l
  have cl := cnt_le (lfg P w s) (P_m P)
  have lp : ∀ k, k ≤ cnt (lfg P w s) (P_m P) → (∀ i, i < P_m P → lfg P w s i = true → cnt (lfg P w s) i < k → usa2 P t s i = false) → ∀ x y z, TT sc (d + 1) 121 Q 2 [.ref 49, .int (nI t), .int (nI s), .int (nI k), x, y, z] [] h := by
    refine up_to fun k hk ih => ?_
    intro H x y z
    by_cases e : k < cnt (lfg P w s) (P_m P)
    · obtain ⟨i, i1, i2, i3⟩ := cnt_ex e
      have l3 := l2 i i1 i2
      rw [i3] at l3
      have hd := c.hd i1
      have b : ∀ a : Nat, P_hd P i &&& a < 4096 := fun a => Nat.lt_of_le_of_lt Nat.and_le_left hd
      have hh := i2
      unfold lfg at hh
      rw [Bool.and_eq_true, Bool.and_eq_true, decide_eq_true_eq] at hh
      have nxt : usa2 P t s i = false → ∀ x y z, TT sc (d + 1) 121 Q 2 [.ref 49, .int (nI t), .int (nI s), .int (nI (k + 1)), x, y, z] [] h := fun n => ih e fun j j1 j2 j3 => by
        rcases Nat.lt_or_ge (cnt (lfg P w s) j) k with q | q
        · exact H j j1 j2 q
        · have j4 : cnt (lfg P w s) j = k := by omega
          have : j = i := by
            rcases Nat.lt_trichotomy j i with q | q | q
            · have := cnt_mono (lfg P w s) (a := j + 1) (b := i) q
              rw [← cnt_t j2] at this; omega
            · exact q
            · have := cnt_mono (lfg P w s) (a := i + 1) (b := j) q
              rw [← cnt_t i2] at this; omega
          rw [this]; exact n
      have bad : usa2 P t s i = true → Q (.inl (some (.int (nI 0)))) h := fun n => lf0 hq (bP_no fun q => by rw [q i i1 i2] at n; cases n)
      have sp : dif s t &&& P_hd P i = 0 ↔ t &&& (P_hd P i &&& s) = P_hd P i &&& s := by
        rw [and_dif, show dif (P_hd P i &&& s) t = dif s t &&& P_hd P i from Nat.eq_of_testBit_eq fun j => by
          simp only [dif_tb, Nat.testBit_and]
          cases s.testBit j <;> cases t.testBit j <;> cases (P_hd P i).testBit j <;> rfl]
      have en : (nI (t &&& (P_hd P i &&& s)) = nI (P_hd P i &&& s)) = (t &&& (P_hd P i &&& s) = P_hd P i &&& s) := nI_e (Nat.lt_of_le_of_lt Nat.and_le_right (Nat.lt_trans (b s) (by decide))) (Nat.lt_trans (b s) (by decide))
      have ez : (nI (t &&& P_hd P i) = nI 0) = (t &&& P_hd P i = 0) := nI_e (Nat.lt_of_le_of_lt Nat.and_le_right (Nat.lt_trans hd (by decide))) (by decide)
      by_cases k1 : P_kd P i = 1
      · refine wx_sound (S := [2]) 80 true _ _ _ _ ?_
        simp +contextual (disch := omega) only [K121, wx_t, wx_g, wJ_t, wJ_f, wI_s, CI, CL, C01, aftC_v, aftC_n, true_or, or_true, true_and, and_true, inS_n, inS_c, pI_c, pL_c, pA_c, pV_c, pE_c, pQ_s, pQ_n, pQ_r, cm_eq', cm_ne', cm_lt', cm_ge', cm_gt', cm_le', List.getD_cons_zero, List.getD_cons_succ, Nat.reduceAdd, Nat.reduceBEq, Bool.false_or, Bool.or_false, Bool.true_or, Int.reduceToNat, s_iload, s_lload, s_aload, s_istore, s_astore, s_lstore, s_iconst, s_sipush, s_aconst_null, s_iadd, s_isub, s_imul, s_iand, s_ior, s_ixor, s_idiv, s_irem, s_ishl, s_ishr, s_iushr, s_ladd, s_lsub, s_land, s_lor, s_lxor, s_lneg, s_lshl, s_lshr, s_lushr, s_i2l, s_l2i, s_lcmp, s_dup, s_pop, s_dup2, s_i2c, s_i2s, s_monitorenter, s_ifCond, s_if_icmp, s_ifnull, s_goto, s_iinc, s_tableswitch, s_ireturn, s_freturn, s_lreturn, s_areturn, s_return_, s_ldc, s_getfield, s_putfield, s_iaload, s_iastore, s_laload, s_lastore, s_baload, s_bastore, s_aaload, s_aastore, s_arraylength, s_newarray, s_anewarray, s_new, s_invokestatic, s_invokespecial, s_invokevirtual, fvl_0, fvl_1, fvl_2, fvl_3, fp_0, fp_1, fp_2, fp_3, rf_s, rf_n, isRf_b, knw_b, isLg_b, popA_0, popA_s, st1_0, st1_s, st2_e, set_0, set_s, aftC_e, hxP_s, hxP_n, iteF, iteT, bft, im_t, im_f, nt_f, nt_t, Nat.reduceDiv, Nat.reduceMod, Nat.reduceLeDiff, Nat.reduceLT, Nat.reduceEqDiff, List.length_cons, List.length_nil, Nat.zero_add, Nat.reduceSub, List.cons_append, List.nil_append, ak_i, az_i, ar_i, al_i, ai_i, ak_l, az_l, ar_l, al_l, ai_l, ak_r, az_r, ar_r, al_r, ai_r, pk_m1, reduceCtorEq, msk_tb, mskL, Bool.and_eq_true, decide_eq_true_eq, lg_0, lg_t, lg_g, lg_e, lg_l, tb_z, Nat.mod_eq_of_lt, lN_1s, and_ze, brT, brF, brN, vpT, a4095, a63, nI_e, nI_l', nI_t', dif_z, and_z, and_zr, lN_e, nI_clamp, nx_shr, Nat.reducePow, bI_0, bI_1, bI_z, bI_o, bI_or, n01, nI_add, pk_mul, nx_and, nx_or, nx_dif, lx_and, lx_or, lx_dif, Bool.not_eq_true, Bool.not_eq_false, Bool.true_eq_false, Bool.false_eq_true, ss_49 c.1, l1, l3, (c.i i1).2.1, m_114 c i1, m_116 c i1 ht, k1, en]
        refine And.intro (fun e1 => nxt ?_ _ _ _) fun e1 => And.intro (fun e2 => nxt ?_ _ _ _) fun e2 => bad ?_
        · have := sp.mpr e1
          rw [Nat.and_comm] at this
          unfold usa2; simp [k1, this]
        · unfold usa2; simp [e2]
        · have : ¬ P_hd P i &&& dif s t = 0 := fun z => e1 (sp.mp (by rw [Nat.and_comm]; exact z))
          unfold usa2; simp [e2, hh.2.1, k1, this]
      · have k0 : P_kd P i = 0 := by omega
        refine wx_sound (S := [2]) 80 true _ _ _ _ ?_
        simp +contextual (disch := omega) only [K121, wx_t, wx_g, wJ_t, wJ_f, wI_s, CI, CL, C01, aftC_v, aftC_n, true_or, or_true, true_and, and_true, inS_n, inS_c, pI_c, pL_c, pA_c, pV_c, pE_c, pQ_s, pQ_n, pQ_r, cm_eq', cm_ne', cm_lt', cm_ge', cm_gt', cm_le', List.getD_cons_zero, List.getD_cons_succ, Nat.reduceAdd, Nat.reduceBEq, Bool.false_or, Bool.or_false, Bool.true_or, Int.reduceToNat, s_iload, s_lload, s_aload, s_istore, s_astore, s_lstore, s_iconst, s_sipush, s_aconst_null, s_iadd, s_isub, s_imul, s_iand, s_ior, s_ixor, s_idiv, s_irem, s_ishl, s_ishr, s_iushr, s_ladd, s_lsub, s_land, s_lor, s_lxor, s_lneg, s_lshl, s_lshr, s_lushr, s_i2l, s_l2i, s_lcmp, s_dup, s_pop, s_dup2, s_i2c, s_i2s, s_monitorenter, s_ifCond, s_if_icmp, s_ifnull, s_goto, s_iinc, s_tableswitch, s_ireturn, s_freturn, s_lreturn, s_areturn, s_return_, s_ldc, s_getfield, s_putfield, s_iaload, s_iastore, s_laload, s_lastore, s_baload, s_bastore, s_aaload, s_aastore, s_arraylength, s_newarray, s_anewarray, s_new, s_invokestatic, s_invokespecial, s_invokevirtual, fvl_0, fvl_1, fvl_2, fvl_3, fp_0, fp_1, fp_2, fp_3, rf_s, rf_n, isRf_b, knw_b, isLg_b, popA_0, popA_s, st1_0, st1_s, st2_e, set_0, set_s, aftC_e, hxP_s, hxP_n, iteF, iteT, bft, im_t, im_f, nt_f, nt_t, Nat.reduceDiv, Nat.reduceMod, Nat.reduceLeDiff, Nat.reduceLT, Nat.reduceEqDiff, List.length_cons, List.length_nil, Nat.zero_add, Nat.reduceSub, List.cons_append, List.nil_append, ak_i, az_i, ar_i, al_i, ai_i, ak_l, az_l, ar_l, al_l, ai_l, ak_r, az_r, ar_r, al_r, ai_r, pk_m1, reduceCtorEq, msk_tb, mskL, Bool.and_eq_true, decide_eq_true_eq, lg_0, lg_t, lg_g, lg_e, lg_l, tb_z, Nat.mod_eq_of_lt, lN_1s, and_ze, brT, brF, brN, vpT, a4095, a63, nI_e, nI_l', nI_t', dif_z, and_z, and_zr, lN_e, nI_clamp, nx_shr, Nat.reducePow, bI_0, bI_1, bI_z, bI_o, bI_or, n01, nI_add, pk_mul, nx_and, nx_or, nx_dif, lx_and, lx_or, lx_dif, Bool.not_eq_true, Bool.not_eq_false, Bool.true_eq_false, Bool.false_eq_true, ss_49 c.1, l1, l3, (c.i i1).2.1, m_114 c i1, m_116 c i1 ht, k0, ez]
        refine And.intro (fun e1 => And.intro (fun e2 => nxt ?_ _ _ _) fun e2 => bad ?_) fun e1 => nxt ?_ _ _ _
        · unfold usa2; simp [e2]
        · rw [Nat.and_comm] at e1
          unfold usa2; simp [e2, hh.2.1, k0, e1]
        · rw [Nat.and_comm] at e1
          unfold usa2; simp [k0, e1]
    · have : k = cnt (lfg P w s) (P_m P) := by omega
      subst this
      refine wx_sound (S := [2]) 60 true _ _ _ _ ?_
      simp +contextual (disch := omega) only [K121, wx_t, wx_g, wJ_t, wJ_f, wI_s, CI, CL, C01, aftC_v, aftC_n, true_or, or_true, true_and, and_true, inS_n, inS_c, pI_c, pL_c, pA_c, pV_c, pE_c, pQ_s, pQ_n, pQ_r, cm_eq', cm_ne', cm_lt', cm_ge', cm_gt', cm_le', List.getD_cons_zero, List.getD_cons_succ, Nat.reduceAdd, Nat.reduceBEq, Bool.false_or, Bool.or_false, Bool.true_or, Int.reduceToNat, s_iload, s_lload, s_aload, s_istore, s_astore, s_lstore, s_iconst, s_sipush, s_aconst_null, s_iadd, s_isub, s_imul, s_iand, s_ior, s_ixor, s_idiv, s_irem, s_ishl, s_ishr, s_iushr, s_ladd, s_lsub, s_land, s_lor, s_lxor, s_lneg, s_lshl, s_lshr, s_lushr, s_i2l, s_l2i, s_lcmp, s_dup, s_pop, s_dup2, s_i2c, s_i2s, s_monitorenter, s_ifCond, s_if_icmp, s_ifnull, s_goto, s_iinc, s_tableswitch, s_ireturn, s_freturn, s_lreturn, s_areturn, s_return_, s_ldc, s_getfield, s_putfield, s_iaload, s_iastore, s_laload, s_lastore, s_baload, s_bastore, s_aaload, s_aastore, s_arraylength, s_newarray, s_anewarray, s_new, s_invokestatic, s_invokespecial, s_invokevirtual, fvl_0, fvl_1, fvl_2, fvl_3, fp_0, fp_1, fp_2, fp_3, rf_s, rf_n, isRf_b, knw_b, isLg_b, popA_0, popA_s, st1_0, st1_s, st2_e, set_0, set_s, aftC_e, hxP_s, hxP_n, iteF, iteT, bft, im_t, im_f, nt_f, nt_t, Nat.reduceDiv, Nat.reduceMod, Nat.reduceLeDiff, Nat.reduceLT, Nat.reduceEqDiff, List.length_cons, List.length_nil, Nat.zero_add, Nat.reduceSub, List.cons_append, List.nil_append, ak_i, az_i, ar_i, al_i, ai_i, ak_l, az_l, ar_l, al_l, ai_l, ak_r, az_r, ar_r, al_r, ai_r, pk_m1, reduceCtorEq, msk_tb, mskL, Bool.and_eq_true, decide_eq_true_eq, lg_0, lg_t, lg_g, lg_e, lg_l, tb_z, Nat.mod_eq_of_lt, lN_1s, and_ze, brT, brF, brN, vpT, a4095, a63, nI_e, nI_l', nI_t', dif_z, and_z, and_zr, lN_e, nI_clamp, nx_shr, Nat.reducePow, bI_0, bI_1, bI_z, bI_o, bI_or, n01, nI_add, pk_mul, nx_and, nx_or, nx_dif, lx_and, lx_or, lx_dif, Bool.not_eq_true, Bool.not_eq_false, Bool.true_eq_false, Bool.false_eq_true, ss_49 c.1, l1]
      refine lf1 hq (bP_of fun i h1 h2 => H i h1 h2 ?_)
      have := cnt_mono (lfg P w s) (a := i + 1) (b := P_m P) h1
      rw [← cnt_t h2] at this; omega
  refine TC_e (ls := [.ref 49, .int (nI t), .int (nI s), unk, unk, unk, unk]) (Nat.le_of_ble_eq_true rfl) rfl (wx_sound (S := [2]) 60 true _ _ _ _ ?_)
  simp +contextual (disch := omega) only [K121, wx_t, wx_g, wJ_t, wJ_f, wI_s, CI, CL, C01, aftC_v, aftC_n, true_or, or_true, true_and, and_true, inS_n, inS_c, pI_c, pL_c, pA_c, pV_c, pE_c, pQ_s, pQ_n, pQ_r, cm_eq', cm_ne', cm_lt', cm_ge', cm_gt', cm_le', List.getD_cons_zero, List.getD_cons_succ, Nat.reduceAdd, Nat.reduceBEq, Bool.false_or, Bool.or_false, Bool.true_or, Int.reduceToNat, s_iload, s_lload, s_aload, s_istore, s_astore, s_lstore, s_iconst, s_sipush, s_aconst_null, s_iadd, s_isub, s_imul, s_iand, s_ior, s_ixor, s_idiv, s_irem, s_ishl, s_ishr, s_iushr, s_ladd, s_lsub, s_land, s_lor, s_lxor, s_lneg, s_lshl, s_lshr, s_lushr, s_i2l, s_l2i, s_lcmp, s_dup, s_pop, s_dup2, s_i2c, s_i2s, s_monitorenter, s_ifCond, s_if_icmp, s_ifnull, s_goto, s_iinc, s_tableswitch, s_ireturn, s_freturn, s_lreturn, s_areturn, s_return_, s_ldc, s_getfield, s_putfield, s_iaload, s_iastore, s_laload, s_lastore, s_baload, s_bastore, s_aaload, s_aastore, s_arraylength, s_newarray, s_anewarray, s_new, s_invokestatic, s_invokespecial, s_invokevirtual, fvl_0, fvl_1, fvl_2, fvl_3, fp_0, fp_1, fp_2, fp_3, rf_s, rf_n, isRf_b, knw_b, isLg_b, popA_0, popA_s, st1_0, st1_s, st2_e, set_0, set_s, aftC_e, hxP_s, hxP_n, iteF, iteT, bft, im_t, im_f, nt_f, nt_t, Nat.reduceDiv, Nat.reduceMod, Nat.reduceLeDiff, Nat.reduceLT, Nat.reduceEqDiff, List.length_cons, List.length_nil, Nat.zero_add, Nat.reduceSub, List.cons_append, List.nil_append, ak_i, az_i, ar_i, al_i, ai_i, ak_l, az_l, ar_l, al_l, ai_l, ak_r, az_r, ar_r, al_r, ai_r, pk_m1, reduceCtorEq, msk_tb, mskL, Bool.and_eq_true, decide_eq_true_eq, lg_0, lg_t, lg_g, lg_e, lg_l, tb_z, Nat.mod_eq_of_lt, lN_1s, and_ze, brT, brF, brN, vpT, a4095, a63, nI_e, nI_l', nI_t', dif_z, and_z, and_zr, lN_e, nI_clamp, nx_shr, Nat.reducePow, bI_0, bI_1, bI_z, bI_o, bI_or, n01, nI_add, pk_mul, nx_and, nx_or, nx_dif, lx_and, lx_or, lx_dif, Bool.not_eq_true, Bool.not_eq_false, Bool.true_eq_false, Bool.false_eq_true]
  exact lp 0 (Nat.zero_le _) (fun i _ _ hi => absurd hi (by omega)) _ _ _) Q
theorem lfg_t {w : Int32} {s t i : Nat} : (lfg P w s i = true → usa2 P t s i = false) ↔ (wW w i = false → usa2 P t s i = false) := by
  constructor
  · intro h1 h2
    cases e : usa2 P t s i
    · rfl
    · rw [h1 ?_] at e
      · cases e
      · unfold usa2 at e
        unfold lfg
        rw [h2]
        simp only [Bool.and_eq_true, Bool.or_eq_true, decide_eq_true_eq] at e
        rw [e.1.2]
        simp only [Bool.not_false, Bool.true_and, decide_eq_true_eq]
        rcases e.2 with e | e <;> omega
  · intro h1 h2
    refine h1 ?_
    unfold lfg at h2
    cases e : wW w i
    · rfl
    · rw [e] at h2; cases h2
theorem m_122 (c : MP h P) (x : RMX h (P_n P) A T F) (hT : T < 2 ^ P_n P) (hF : F < 2 ^ P_n P) {s : Nat} (hs : s < 2 ^ P_n P) : TC sc (d + 3) 122 [.ref 49, .int (nI s)] h fun q h' => q = .inl (some (.int (bI (bP (satW P T (ah_i h 49 28) s ∧ lstW P T F (ah_i h 49 28) s))))) ∧ FR h h' S67 := by
  have n12 := c.n
  have pn := c.pn
  generalize hw : ah_i h 49 28 = w
  generalize hQ : (fun (q : Rs) (h' : AH) => q = .inl (some (.int (bI (bP (satW P T w s ∧ lstW P T F w s))))) ∧ FR h h' S67) = Q
  have hs2 : s < 2 ^ 12 := Nat.lt_of_lt_of_le hs pn
  have hN : T ||| F &&& s < 2 ^ 12 := or_lt (Nat.lt_of_lt_of_le hT pn) (Nat.lt_of_lt_of_le (and_lt hF) pn)
  refine TC_e (ls := [.ref 49, .int (nI s), unk, unk]) (Nat.le_of_ble_eq_true rfl) rfl (wx_sound (S := [16]) 60 true _ _ _ _ ?_)
  simp +contextual (disch := omega) only [K122, wx_t, wx_g, wJ_t, wJ_f, wI_s, CI, CL, C01, aftC_v, aftC_n, true_or, or_true, true_and, and_true, inS_n, inS_c, pI_c, pL_c, pA_c, pV_c, pE_c, pQ_s, pQ_n, pQ_r, cm_eq', cm_ne', cm_lt', cm_ge', cm_gt', cm_le', List.getD_cons_zero, List.getD_cons_succ, Nat.reduceAdd, Nat.reduceBEq, Bool.false_or, Bool.or_false, Bool.true_or, Int.reduceToNat, s_iload, s_lload, s_aload, s_istore, s_astore, s_lstore, s_iconst, s_sipush, s_aconst_null, s_iadd, s_isub, s_imul, s_iand, s_ior, s_ixor, s_idiv, s_irem, s_ishl, s_ishr, s_iushr, s_ladd, s_lsub, s_land, s_lor, s_lxor, s_lneg, s_lshl, s_lshr, s_lushr, s_i2l, s_l2i, s_lcmp, s_dup, s_pop, s_dup2, s_i2c, s_i2s, s_monitorenter, s_ifCond, s_if_icmp, s_ifnull, s_goto, s_iinc, s_tableswitch, s_ireturn, s_freturn, s_lreturn, s_areturn, s_return_, s_ldc, s_getfield, s_putfield, s_iaload, s_iastore, s_laload, s_lastore, s_baload, s_bastore, s_aaload, s_aastore, s_arraylength, s_newarray, s_anewarray, s_new, s_invokestatic, s_invokespecial, s_invokevirtual, fvl_0, fvl_1, fvl_2, fvl_3, fp_0, fp_1, fp_2, fp_3, rf_s, rf_n, isRf_b, knw_b, isLg_b, popA_0, popA_s, st1_0, st1_s, st2_e, set_0, set_s, aftC_e, hxP_s, hxP_n, iteF, iteT, bft, im_t, im_f, nt_f, nt_t, Nat.reduceDiv, Nat.reduceMod, Nat.reduceLeDiff, Nat.reduceLT, Nat.reduceEqDiff, List.length_cons, List.length_nil, Nat.zero_add, Nat.reduceSub, List.cons_append, List.nil_append, ak_i, az_i, ar_i, al_i, ai_i, ak_l, az_l, ar_l, al_l, ai_l, ak_r, az_r, ar_r, al_r, ai_r, pk_m1, reduceCtorEq, msk_tb, mskL, Bool.and_eq_true, decide_eq_true_eq, lg_0, lg_t, lg_g, lg_e, lg_l, tb_z, Nat.mod_eq_of_lt, lN_1s, and_ze, brT, brF, brN, vpT, a4095, a63, nI_e, nI_l', nI_t', dif_z, and_z, and_zr, lN_e, nI_clamp, nx_shr, Nat.reducePow, bI_0, bI_1, bI_z, bI_o, bI_or, n01, nI_add, pk_mul, nx_and, nx_or, nx_dif, lx_and, lx_or, lx_dif, Bool.not_eq_true, Bool.not_eq_false, Bool.true_eq_false, Bool.false_eq_true, ss_49 c.1]
  refine TC_mono (m_120 c x hT hs) ?_
  rw [hw]
  rintro q h1 ⟨rfl, f1, l1⟩
  have c1 := c.fr (f1.mono sm_67)
  have x1 := x.fr (f1.mono sm_67)
  simp +contextual (disch := omega) only [K122, wx_t, wx_g, wJ_t, wJ_f, wI_s, CI, CL, C01, aftC_v, aftC_n, true_or, or_true, true_and, and_true, inS_n, inS_c, pI_c, pL_c, pA_c, pV_c, pE_c, pQ_s, pQ_n, pQ_r, cm_eq', cm_ne', cm_lt', cm_ge', cm_gt', cm_le', List.getD_cons_zero, List.getD_cons_succ, Nat.reduceAdd, Nat.reduceBEq, Bool.false_or, Bool.or_false, Bool.true_or, Int.reduceToNat, s_iload, s_lload, s_aload, s_istore, s_astore, s_lstore, s_iconst, s_sipush, s_aconst_null, s_iadd, s_isub, s_imul, s_iand, s_ior, s_ixor, s_idiv, s_irem, s_ishl, s_ishr, s_iushr, s_ladd, s_lsub, s_land, s_lor, s_lxor, s_lneg, s_lshl, s_lshr, s_lushr, s_i2l, s_l2i, s_lcmp, s_dup, s_pop, s_dup2, s_i2c, s_i2s, s_monitorenter, s_ifCond, s_if_icmp, s_ifnull, s_goto, s_iinc, s_tableswitch, s_ireturn, s_freturn, s_lreturn, s_areturn, s_return_, s_ldc, s_getfield, s_putfield, s_iaload, s_iastore, s_laload, s_lastore, s_baload, s_bastore, s_aaload, s_aastore, s_arraylength, s_newarray, s_anewarray, s_new, s_invokestatic, s_invokespecial, s_invokevirtual, fvl_0, fvl_1, fvl_2, fvl_3, fp_0, fp_1, fp_2, fp_3, rf_s, rf_n, isRf_b, knw_b, isLg_b, popA_0, popA_s, st1_0, st1_s, st2_e, set_0, set_s, aftC_e, hxP_s, hxP_n, iteF, iteT, bft, im_t, im_f, nt_f, nt_t, Nat.reduceDiv, Nat.reduceMod, Nat.reduceLeDiff, Nat.reduceLT, Nat.reduceEqDiff, List.length_cons, List.length_nil, Nat.zero_add, Nat.reduceSub, List.cons_append, List.nil_append, ak_i, az_i, ar_i, al_i, ai_i, ak_l, az_l, ar_l, al_l, ai_l, ak_r, az_r, ar_r, al_r, ai_r, pk_m1, reduceCtorEq, msk_tb, mskL, Bool.and_eq_true, decide_eq_true_eq, lg_0, lg_t, lg_g, lg_e, lg_l, tb_z, Nat.mod_eq_of_lt, lN_1s, and_ze, brT, brF, brN, vpT, a4095, a63, nI_e, nI_l', nI_t', dif_z, and_z, and_zr, lN_e, nI_clamp, nx_shr, Nat.reducePow, bI_0, bI_1, bI_z, bI_o, bI_or, n01, nI_add, pk_mul, nx_and, nx_or, nx_dif, lx_and, lx_or, lx_dif, Bool.not_eq_true, Bool.not_eq_false, Bool.true_eq_false, Bool.false_eq_true, ss_49 c1.1, m_118 c1 x1 hT, m_119 c1 x1 hF, nx_and, nx_or, bP_t, bP_f]
  refine And.intro (fun e0 => ?_) fun e0 => ?_
  · have l2 := l1 e0
    have lp : ∀ j t, rk s t 12 = j → t &&& s = t → (∀ u, u &&& s = u → rk s t 12 ≤ rk s u 12 → u ≠ s → dif (T ||| F &&& s) u = 0 → ∃ i, i < P_m P ∧ wW w i = false ∧ usa2 P u s i = true) →
        TT sc (d + 2) 122 Q 16 [.ref 49, .int (nI s), .int (nI (T ||| F &&& s)), .int (nI t)] [] h1 := by
      intro j
      induction j with
      | zero =>
        intro t hr ht H
        have t0 := wk_z hs2 ht hr
        subst t0
        refine wx_sound (S := [16]) 60 true _ _ _ _ ?_
        simp +contextual (disch := omega) only [K122, wx_t, wx_g, wJ_t, wJ_f, wI_s, CI, CL, C01, aftC_v, aftC_n, true_or, or_true, true_and, and_true, inS_n, inS_c, pI_c, pL_c, pA_c, pV_c, pE_c, pQ_s, pQ_n, pQ_r, cm_eq', cm_ne', cm_lt', cm_ge', cm_gt', cm_le', List.getD_cons_zero, List.getD_cons_succ, Nat.reduceAdd, Nat.reduceBEq, Bool.false_or, Bool.or_false, Bool.true_or, Int.reduceToNat, s_iload, s_lload, s_aload, s_istore, s_astore, s_lstore, s_iconst, s_sipush, s_aconst_null, s_iadd, s_isub, s_imul, s_iand, s_ior, s_ixor, s_idiv, s_irem, s_ishl, s_ishr, s_iushr, s_ladd, s_lsub, s_land, s_lor, s_lxor, s_lneg, s_lshl, s_lshr, s_lushr, s_i2l, s_l2i, s_lcmp, s_dup, s_pop, s_dup2, s_i2c, s_i2s, s_monitorenter, s_ifCond, s_if_icmp, s_ifnull, s_goto, s_iinc, s_tableswitch, s_ireturn, s_freturn, s_lreturn, s_areturn, s_return_, s_ldc, s_getfield, s_putfield, s_iaload, s_iastore, s_laload, s_lastore, s_baload, s_bastore, s_aaload, s_aastore, s_arraylength, s_newarray, s_anewarray, s_new, s_invokestatic, s_invokespecial, s_invokevirtual, fvl_0, fvl_1, fvl_2, fvl_3, fp_0, fp_1, fp_2, fp_3, rf_s, rf_n, isRf_b, knw_b, isLg_b, popA_0, popA_s, st1_0, st1_s, st2_e, set_0, set_s, aftC_e, hxP_s, hxP_n, iteF, iteT, bft, im_t, im_f, nt_f, nt_t, Nat.reduceDiv, Nat.reduceMod, Nat.reduceLeDiff, Nat.reduceLT, Nat.reduceEqDiff, List.length_cons, List.length_nil, Nat.zero_add, Nat.reduceSub, List.cons_append, List.nil_append, ak_i, az_i, ar_i, al_i, ai_i, ak_l, az_l, ar_l, al_l, ai_l, ak_r, az_r, ar_r, al_r, ai_r, pk_m1, reduceCtorEq, msk_tb, mskL, Bool.and_eq_true, decide_eq_true_eq, lg_0, lg_t, lg_g, lg_e, lg_l, tb_z, Nat.mod_eq_of_lt, lN_1s, and_ze, brT, brF, brN, vpT, a4095, a63, nI_e, nI_l', nI_t', dif_z, and_z, and_zr, lN_e, nI_clamp, nx_shr, Nat.reducePow, bI_0, bI_1, bI_z, bI_o, bI_or, n01, nI_add, pk_mul, nx_and, nx_or, nx_dif, lx_and, lx_or, lx_dif, Bool.not_eq_true, Bool.not_eq_false, Bool.true_eq_false, Bool.false_eq_true, ss_49 c1.1]
        rw [← hQ]
        refine ⟨?_, f1⟩
        rw [bP_of ⟨e0, fun u h2 h3 h4 => H u h2 (by rw [hr]; omega) h3 h4⟩]; rfl
      | succ j ih =>
        intro t hr ht H
        have t0 : t ≠ 0 := by rintro rfl; rw [rk_0] at hr; omega
        have tl : t < 2 ^ 12 := Nat.lt_of_le_of_lt (ht ▸ Nat.and_le_right) hs2
        have e := rk_pred (n := 12) tl t0 (sub_tb.mp ht)
        have hs3 : (t - 1) &&& s < 2 ^ P_n P := Nat.lt_of_le_of_lt Nat.and_le_right hs
        have as : (t - 1 &&& s) &&& s = t - 1 &&& s := by rw [Nat.and_assoc, Nat.and_self]
        have p1 : nI t - nI 1 = nI (t - 1) := pk_sub (by omega)
        have tz : (nI t = nI 0) = False := eq_false (by rw [nI_e (by omega) (by decide)]; exact t0)
        have en : (nI (t - 1 &&& s &&& (T ||| F &&& s)) = nI (T ||| F &&& s)) = (dif (T ||| F &&& s) (t - 1 &&& s) = 0) := by
          rw [nI_e (Nat.lt_of_le_of_lt Nat.and_le_right (by omega)) (by omega), and_dif]
        have nes : t - 1 &&& s ≠ s := by
          intro q2
          have l1 := rk_lt s s 12
          have f : rk s s 12 + 1 = 2 ^ pop s 12 := rk_full fun i _ h => h
          have l2 := rk_lt s t 12
          rw [q2] at e
          omega
        refine wx_sound (S := [16]) 60 true _ _ _ _ ?_
        simp +contextual (disch := omega) only [K122, wx_t, wx_g, wJ_t, wJ_f, wI_s, CI, CL, C01, aftC_v, aftC_n, true_or, or_true, true_and, and_true, inS_n, inS_c, pI_c, pL_c, pA_c, pV_c, pE_c, pQ_s, pQ_n, pQ_r, cm_eq', cm_ne', cm_lt', cm_ge', cm_gt', cm_le', List.getD_cons_zero, List.getD_cons_succ, Nat.reduceAdd, Nat.reduceBEq, Bool.false_or, Bool.or_false, Bool.true_or, Int.reduceToNat, s_iload, s_lload, s_aload, s_istore, s_astore, s_lstore, s_iconst, s_sipush, s_aconst_null, s_iadd, s_isub, s_imul, s_iand, s_ior, s_ixor, s_idiv, s_irem, s_ishl, s_ishr, s_iushr, s_ladd, s_lsub, s_land, s_lor, s_lxor, s_lneg, s_lshl, s_lshr, s_lushr, s_i2l, s_l2i, s_lcmp, s_dup, s_pop, s_dup2, s_i2c, s_i2s, s_monitorenter, s_ifCond, s_if_icmp, s_ifnull, s_goto, s_iinc, s_tableswitch, s_ireturn, s_freturn, s_lreturn, s_areturn, s_return_, s_ldc, s_getfield, s_putfield, s_iaload, s_iastore, s_laload, s_lastore, s_baload, s_bastore, s_aaload, s_aastore, s_arraylength, s_newarray, s_anewarray, s_new, s_invokestatic, s_invokespecial, s_invokevirtual, fvl_0, fvl_1, fvl_2, fvl_3, fp_0, fp_1, fp_2, fp_3, rf_s, rf_n, isRf_b, knw_b, isLg_b, popA_0, popA_s, st1_0, st1_s, st2_e, set_0, set_s, aftC_e, hxP_s, hxP_n, iteF, iteT, bft, im_t, im_f, nt_f, nt_t, Nat.reduceDiv, Nat.reduceMod, Nat.reduceLeDiff, Nat.reduceLT, Nat.reduceEqDiff, List.length_cons, List.length_nil, Nat.zero_add, Nat.reduceSub, List.cons_append, List.nil_append, ak_i, az_i, ar_i, al_i, ai_i, ak_l, az_l, ar_l, al_l, ai_l, ak_r, az_r, ar_r, al_r, ai_r, pk_m1, reduceCtorEq, msk_tb, mskL, Bool.and_eq_true, decide_eq_true_eq, lg_0, lg_t, lg_g, lg_e, lg_l, tb_z, Nat.mod_eq_of_lt, lN_1s, and_ze, brT, brF, brN, vpT, a4095, a63, nI_e, nI_l', nI_t', dif_z, and_z, and_zr, lN_e, nI_clamp, nx_shr, Nat.reducePow, bI_0, bI_1, bI_z, bI_o, bI_or, n01, nI_add, pk_mul, nx_and, nx_or, nx_dif, lx_and, lx_or, lx_dif, Bool.not_eq_true, Bool.not_eq_false, Bool.true_eq_false, Bool.false_eq_true, ss_49 c1.1, p1, tz, en, m_121 c1 l2 hs hs3 as, bP_t, bP_f]
        refine And.intro (fun e1 => And.intro (fun e2 => ?_) fun e2 => ?_) fun e1 => ?_
        · rw [← hQ]
          refine ⟨?_, f1⟩
          rw [bP_no fun z => ?_]
          · rfl
          · obtain ⟨i, i1, i2, i3⟩ := z.2 _ as nes e1
            rw [lfg_t.mp (e2 i i1) i2] at i3; cases i3
        · refine ih _ (by omega) as ?_
          refine wk_s (p := fun u => dif (T ||| F &&& s) u = 0 → ∃ i, i < P_m P ∧ wW w i = false ∧ usa2 P u s i = true) hs2 ht t0 H fun _ => ?_
          apply Classical.byContradiction
          intro n
          refine e2 fun i i1 => lfg_t.mpr fun i2 => ?_
          cases i3 : usa2 P (t - 1 &&& s) s i
          · rfl
          · exact (n ⟨i, i1, i2, i3⟩).elim
        · refine ih _ (by omega) as ?_
          exact wk_s (p := fun u => dif (T ||| F &&& s) u = 0 → ∃ i, i < P_m P ∧ wW w i = false ∧ usa2 P u s i = true) hs2 ht t0 H fun z => absurd z e1
    exact lp _ s rfl (Nat.and_self s) (wk_0 hs2)
  · rw [← hQ]
    exact ⟨by rw [bP_no fun z => e0 z.1]; rfl, f1⟩
end MDL
