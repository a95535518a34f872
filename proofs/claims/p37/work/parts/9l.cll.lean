/-! THE CLASS'S TABLES: WHERE BODIES HOLD -/
def sok (P : PG) (i s : Nat) : Bool := decide ((P_lo P i).toInt64 ≤ tot P i s (P_n P)) && decide (tot P i s (P_n P) ≤ (P_hi P i).toInt64)
theorem dif_6 {a s : Nat} (ha : a < 4096) : (dif a (s % 64) % 64 = 0 ∧ dif (a / 64) (s / 64) = 0) ↔ s &&& a = a := by
  constructor
  · rintro ⟨h1, h2⟩
    apply Nat.eq_of_testBit_eq
    intro i
    rw [Nat.testBit_and]
    by_cases hi : i < 6
    · have := congrArg (fun z => z.testBit i) h1
      rw [show (64 : Nat) = 2 ^ 6 from rfl] at this
      simp only [Nat.testBit_mod_two_pow, dif_tb, hi, decide_true, Bool.true_and, Nat.zero_testBit] at this
      revert this
      cases a.testBit i <;> cases s.testBit i <;> simp
    · have := congrArg (fun z => z.testBit (i - 6)) h2
      rw [show (64 : Nat) = 2 ^ 6 from rfl] at this
      simp only [dif_tb, Nat.testBit_div_two_pow, Nat.zero_testBit] at this
      rw [show i - 6 + 6 = i by omega] at this
      revert this
      cases a.testBit i <;> cases s.testBit i <;> simp
  · intro h0
    have hb : ∀ i, a.testBit i = true → s.testBit i = true := fun i q => by
      have := congrArg (fun z => z.testBit i) h0
      simp only [Nat.testBit_and, q, Bool.and_true] at this
      exact this
    constructor <;> apply Nat.eq_of_testBit_eq <;> intro i
    · rw [show (64 : Nat) = 2 ^ 6 from rfl]
      simp only [Nat.testBit_mod_two_pow, dif_tb, Nat.zero_testBit]
      have := hb i
      revert this
      by_cases hi : i < 6 <;> cases a.testBit i <;> cases s.testBit i <;> simp [hi]
    · rw [show (64 : Nat) = 2 ^ 6 from rfl]
      simp only [dif_tb, Nat.testBit_div_two_pow, Nat.zero_testBit]
      have := hb (i + 6)
      revert this
      cases a.testBit (i + 6) <;> cases s.testBit (i + 6) <;> simp
theorem or_z {a b : Nat} : a ||| b = 0 ↔ a = 0 ∧ b = 0 := by
  constructor
  · intro h
    constructor <;> apply Nat.eq_of_testBit_eq <;> intro i <;> have := congrArg (fun z => z.testBit i) h <;> simp only [Nat.testBit_or, Nat.zero_testBit, Bool.or_eq_false_iff] at this
    · rw [Nat.zero_testBit]; exact this.1
    · rw [Nat.zero_testBit]; exact this.2
  · rintro ⟨rfl, rfl⟩; rfl
theorem hold_e {P : PG} {i s : Nat} (nd : P_nd P i < 4096) (bn : P_bn P i < 4096) : (!(lbr P (s % 64) i || hbr P (s / 64) i)) = (decide (s &&& P_nd P i = P_nd P i) && decide (s &&& P_bn P i = 0)) := by
  have h1 := dif_6 (s := s) nd
  have h2 := hd_split (s := s) bn
  have e : (lbr P (s % 64) i || hbr P (s / 64) i) = false ↔ (s &&& P_nd P i = P_nd P i) ∧ (s &&& P_bn P i = 0) := by
    unfold lbr hbr
    rw [Bool.or_eq_false_iff, Bool.not_eq_false', Bool.not_eq_false', decide_eq_true_eq, decide_eq_true_eq, or_z, or_z, Nat.and_comm s (P_bn P i), ← h1, ← h2]
    constructor
    · rintro ⟨⟨a, b⟩, c, d⟩; exact ⟨⟨a, c⟩, b, d⟩
    · rintro ⟨⟨a, c⟩, b, d⟩; exact ⟨⟨a, b⟩, c, d⟩
  by_cases q : (s &&& P_nd P i = P_nd P i) ∧ (s &&& P_bn P i = 0)
  · rw [e.mpr q, decide_eq_true q.1, decide_eq_true q.2]; rfl
  · have q2 : (lbr P (s % 64) i || hbr P (s / 64) i) = true := by
      cases w : (lbr P (s % 64) i || hbr P (s / 64) i)
      · exact absurd (e.mp w) q
      · rfl
    rw [q2]
    by_cases a : s &&& P_nd P i = P_nd P i
    · rw [decide_eq_false (fun b => q ⟨a, b⟩), Bool.and_false]; rfl
    · rw [decide_eq_false a]; rfl
section CLS
variable {sc : (Nat → Int32) × Nat} {d i s : Nat} {h : AH} {Q : Rs → AH → Prop} {P : PG}
theorem c_216 (hp : SHP h) (rp : RPI h P) (ok : P_ok P) (hi : i < P_m P) (hs : s < 2 ^ P_n P) (h1 : P_hs P i = true) : TC sc (d + 2) 216 [.ref 31, .int (nI i), .int (nI s)] h Q ↔ Q (.inl (some (.int (bI (sok P i s))))) h := TC_of (fun Q hq => by
  have m60 := ok.2.1
  have n12 := ok.1
  have pn : 2 ^ P_n P ≤ 4096 := p2_le (n := 12) ok.1
  obtain ⟨_, _, _, v4, r, r1, r2⟩ := rp.2.2.2.2.2.2.2 i hi
  have v4 := v4 h1
  have k217 := fun Q => c_217 (sc := sc) (d := d) (Q := Q) hp rp hi m60
  rw [r1] at k217
  obtain ⟨u1, u2, u3, u4, u5, u6, u7, u8, u9, u10⟩ := r2
  obtain ⟨b1, b2⟩ := u10 h1
  have f11 := rp.1
  have lp : ∀ k, k ≤ P_n P → TT sc (d + 1) 216 Q 8 [.ref 31, .int (nI i), .int (nI s), .ref r, .long (tot P i s k), unk, .int (nI k)] [] h := by
    refine up_to fun k hk ih => ?_
    by_cases e : k < P_n P
    · have k55 := fun Q => c_55 (sc := sc) (d := d) (h := h) (Q := Q) s k (by omega) (by omega)
      have k212 := fun Q => c_212 (sc := sc) (d := d) (Q := Q) hp (i := i) (a := k) (by omega) (by omega)
      rw [v4 k e] at k212
      have ih := ih e
      rw [tot_s] at ih
      cases t : s.testBit k
      · rw [t, if_neg (by simp)] at ih
        rw [t] at k55
        refine wx_sound (S := [8]) 30 true _ _ _ _ ?_
        simp +contextual (disch := omega) only [K216, wx_t, wx_g, wJ_t, wJ_f, wI_s, CI, CL, C01, aftC_v, aftC_n, true_or, or_true, true_and, and_true, inS_n, inS_c, pI_c, pL_c, pA_c, pV_c, pE_c, pQ_s, pQ_n, pQ_r, cm_eq', cm_ne', cm_lt', cm_ge', cm_gt', cm_le', List.getD_cons_zero, List.getD_cons_succ, Nat.reduceAdd, Nat.reduceBEq, Bool.false_or, Bool.or_false, Bool.true_or, Int.reduceToNat, s_iload, s_lload, s_aload, s_istore, s_astore, s_lstore, s_iconst, s_sipush, s_aconst_null, s_iadd, s_isub, s_imul, s_iand, s_ior, s_ixor, s_idiv, s_irem, s_ishl, s_ishr, s_iushr, s_ladd, s_lsub, s_land, s_lor, s_lxor, s_lneg, s_lshl, s_lshr, s_lushr, s_i2l, s_l2i, s_lcmp, s_dup, s_pop, s_dup2, s_i2c, s_i2s, s_monitorenter, s_ifCond, s_if_icmp, s_ifnull, s_goto, s_iinc, s_tableswitch, s_ireturn, s_freturn, s_lreturn, s_areturn, s_return_, s_ldc, s_getfield, s_putfield, s_iaload, s_iastore, s_laload, s_lastore, s_baload, s_bastore, s_aaload, s_aastore, s_arraylength, s_newarray, s_anewarray, s_new, s_invokestatic, s_invokespecial, s_invokevirtual, fvl_0, fvl_1, fvl_2, fvl_3, fp_0, fp_1, fp_2, fp_3, rf_s, rf_n, isRf_b, knw_b, isLg_b, popA_0, popA_s, st1_0, st1_s, st2_e, set_0, set_s, aftC_e, hxP_s, hxP_n, iteF, iteT, bft, im_t, im_f, nt_f, nt_t, Nat.reduceDiv, Nat.reduceMod, Nat.reduceLeDiff, Nat.reduceLT, Nat.reduceEqDiff, List.length_cons, List.length_nil, Nat.zero_add, Nat.reduceSub, List.cons_append, List.nil_append, ak_i, az_i, ar_i, al_i, ai_i, ak_l, az_l, ar_l, al_l, ai_l, ak_r, az_r, ar_r, al_r, ai_r, pk_m1, reduceCtorEq, msk_tb, mskL, Bool.and_eq_true, decide_eq_true_eq, lg_0, lg_t, lg_g, lg_e, lg_l, tb_z, Nat.mod_eq_of_lt, lN_1s, and_ze, brT, brF, brN, vpT, a4095, a63, nI_e, nI_l', nI_t', dif_z, and_z, and_zr, lN_e, nI_clamp, nx_shr, Nat.reducePow, bI_0, bI_1, bI_z, bI_o, bI_or, n01, nI_add, pk_mul, nx_and, nx_or, nx_dif, lx_and, lx_or, lx_dif, Bool.not_eq_true, Bool.not_eq_false, Bool.true_eq_false, Bool.false_eq_true, ss_31 hp, f11, k55, k212, bq]
        exact ih
      · rw [t, if_pos rfl] at ih
        rw [t] at k55
        refine wx_sound (S := [8]) 30 true _ _ _ _ ?_
        simp +contextual (disch := omega) only [K216, wx_t, wx_g, wJ_t, wJ_f, wI_s, CI, CL, C01, aftC_v, aftC_n, true_or, or_true, true_and, and_true, inS_n, inS_c, pI_c, pL_c, pA_c, pV_c, pE_c, pQ_s, pQ_n, pQ_r, cm_eq', cm_ne', cm_lt', cm_ge', cm_gt', cm_le', List.getD_cons_zero, List.getD_cons_succ, Nat.reduceAdd, Nat.reduceBEq, Bool.false_or, Bool.or_false, Bool.true_or, Int.reduceToNat, s_iload, s_lload, s_aload, s_istore, s_astore, s_lstore, s_iconst, s_sipush, s_aconst_null, s_iadd, s_isub, s_imul, s_iand, s_ior, s_ixor, s_idiv, s_irem, s_ishl, s_ishr, s_iushr, s_ladd, s_lsub, s_land, s_lor, s_lxor, s_lneg, s_lshl, s_lshr, s_lushr, s_i2l, s_l2i, s_lcmp, s_dup, s_pop, s_dup2, s_i2c, s_i2s, s_monitorenter, s_ifCond, s_if_icmp, s_ifnull, s_goto, s_iinc, s_tableswitch, s_ireturn, s_freturn, s_lreturn, s_areturn, s_return_, s_ldc, s_getfield, s_putfield, s_iaload, s_iastore, s_laload, s_lastore, s_baload, s_bastore, s_aaload, s_aastore, s_arraylength, s_newarray, s_anewarray, s_new, s_invokestatic, s_invokespecial, s_invokevirtual, fvl_0, fvl_1, fvl_2, fvl_3, fp_0, fp_1, fp_2, fp_3, rf_s, rf_n, isRf_b, knw_b, isLg_b, popA_0, popA_s, st1_0, st1_s, st2_e, set_0, set_s, aftC_e, hxP_s, hxP_n, iteF, iteT, bft, im_t, im_f, nt_f, nt_t, Nat.reduceDiv, Nat.reduceMod, Nat.reduceLeDiff, Nat.reduceLT, Nat.reduceEqDiff, List.length_cons, List.length_nil, Nat.zero_add, Nat.reduceSub, List.cons_append, List.nil_append, ak_i, az_i, ar_i, al_i, ai_i, ak_l, az_l, ar_l, al_l, ai_l, ak_r, az_r, ar_r, al_r, ai_r, pk_m1, reduceCtorEq, msk_tb, mskL, Bool.and_eq_true, decide_eq_true_eq, lg_0, lg_t, lg_g, lg_e, lg_l, tb_z, Nat.mod_eq_of_lt, lN_1s, and_ze, brT, brF, brN, vpT, a4095, a63, nI_e, nI_l', nI_t', dif_z, and_z, and_zr, lN_e, nI_clamp, nx_shr, Nat.reducePow, bI_0, bI_1, bI_z, bI_o, bI_or, n01, nI_add, pk_mul, nx_and, nx_or, nx_dif, lx_and, lx_or, lx_dif, Bool.not_eq_true, Bool.not_eq_false, Bool.true_eq_false, Bool.false_eq_true, ss_31 hp, f11, k55, k212, bq]
        exact ih
    · have : k = P_n P := by omega
      subst this
      refine wx_sound (S := [8]) 30 true _ _ _ _ ?_
      simp +contextual (disch := omega) only [K216, wx_t, wx_g, wJ_t, wJ_f, wI_s, CI, CL, C01, aftC_v, aftC_n, true_or, or_true, true_and, and_true, inS_n, inS_c, pI_c, pL_c, pA_c, pV_c, pE_c, pQ_s, pQ_n, pQ_r, cm_eq', cm_ne', cm_lt', cm_ge', cm_gt', cm_le', List.getD_cons_zero, List.getD_cons_succ, Nat.reduceAdd, Nat.reduceBEq, Bool.false_or, Bool.or_false, Bool.true_or, Int.reduceToNat, s_iload, s_lload, s_aload, s_istore, s_astore, s_lstore, s_iconst, s_sipush, s_aconst_null, s_iadd, s_isub, s_imul, s_iand, s_ior, s_ixor, s_idiv, s_irem, s_ishl, s_ishr, s_iushr, s_ladd, s_lsub, s_land, s_lor, s_lxor, s_lneg, s_lshl, s_lshr, s_lushr, s_i2l, s_l2i, s_lcmp, s_dup, s_pop, s_dup2, s_i2c, s_i2s, s_monitorenter, s_ifCond, s_if_icmp, s_ifnull, s_goto, s_iinc, s_tableswitch, s_ireturn, s_freturn, s_lreturn, s_areturn, s_return_, s_ldc, s_getfield, s_putfield, s_iaload, s_iastore, s_laload, s_lastore, s_baload, s_bastore, s_aaload, s_aastore, s_arraylength, s_newarray, s_anewarray, s_new, s_invokestatic, s_invokespecial, s_invokevirtual, fvl_0, fvl_1, fvl_2, fvl_3, fp_0, fp_1, fp_2, fp_3, rf_s, rf_n, isRf_b, knw_b, isLg_b, popA_0, popA_s, st1_0, st1_s, st2_e, set_0, set_s, aftC_e, hxP_s, hxP_n, iteF, iteT, bft, im_t, im_f, nt_f, nt_t, Nat.reduceDiv, Nat.reduceMod, Nat.reduceLeDiff, Nat.reduceLT, Nat.reduceEqDiff, List.length_cons, List.length_nil, Nat.zero_add, Nat.reduceSub, List.cons_append, List.nil_append, ak_i, az_i, ar_i, al_i, ai_i, ak_l, az_l, ar_l, al_l, ai_l, ak_r, az_r, ar_r, al_r, ai_r, pk_m1, reduceCtorEq, msk_tb, mskL, Bool.and_eq_true, decide_eq_true_eq, lg_0, lg_t, lg_g, lg_e, lg_l, tb_z, Nat.mod_eq_of_lt, lN_1s, and_ze, brT, brF, brN, vpT, a4095, a63, nI_e, nI_l', nI_t', dif_z, and_z, and_zr, lN_e, nI_clamp, nx_shr, Nat.reducePow, bI_0, bI_1, bI_z, bI_o, bI_or, n01, nI_add, pk_mul, nx_and, nx_or, nx_dif, lx_and, lx_or, lx_dif, Bool.not_eq_true, Bool.not_eq_false, Bool.true_eq_false, Bool.false_eq_true, ss_31 hp, f11, u1, u4, u5, b1, b2]
      refine And.intro (fun e3 => lf0 hq ?_) fun e3 => And.intro (fun e4 => lf0 hq ?_) fun e4 => lf1 hq ?_
      · unfold sok; rw [decide_eq_false (Int64.not_le.mpr e3)]; rfl
      · unfold sok; rw [decide_eq_false (Int64.not_le.mpr e4), Bool.and_false]
      · unfold sok; rw [decide_eq_true (Int64.not_lt.mp e3), decide_eq_true (Int64.not_lt.mp e4)]; rfl
  refine TC_e (ls := [.ref 31, .int (nI i), .int (nI s), unk, unk, unk, unk]) (Nat.le_of_ble_eq_true rfl) rfl (wx_sound (S := [8]) 20 true _ _ _ _ ?_)
  simp +contextual (disch := omega) only [K216, wx_t, wx_g, wJ_t, wJ_f, wI_s, CI, CL, C01, aftC_v, aftC_n, true_or, or_true, true_and, and_true, inS_n, inS_c, pI_c, pL_c, pA_c, pV_c, pE_c, pQ_s, pQ_n, pQ_r, cm_eq', cm_ne', cm_lt', cm_ge', cm_gt', cm_le', List.getD_cons_zero, List.getD_cons_succ, Nat.reduceAdd, Nat.reduceBEq, Bool.false_or, Bool.or_false, Bool.true_or, Int.reduceToNat, s_iload, s_lload, s_aload, s_istore, s_astore, s_lstore, s_iconst, s_sipush, s_aconst_null, s_iadd, s_isub, s_imul, s_iand, s_ior, s_ixor, s_idiv, s_irem, s_ishl, s_ishr, s_iushr, s_ladd, s_lsub, s_land, s_lor, s_lxor, s_lneg, s_lshl, s_lshr, s_lushr, s_i2l, s_l2i, s_lcmp, s_dup, s_pop, s_dup2, s_i2c, s_i2s, s_monitorenter, s_ifCond, s_if_icmp, s_ifnull, s_goto, s_iinc, s_tableswitch, s_ireturn, s_freturn, s_lreturn, s_areturn, s_return_, s_ldc, s_getfield, s_putfield, s_iaload, s_iastore, s_laload, s_lastore, s_baload, s_bastore, s_aaload, s_aastore, s_arraylength, s_newarray, s_anewarray, s_new, s_invokestatic, s_invokespecial, s_invokevirtual, fvl_0, fvl_1, fvl_2, fvl_3, fp_0, fp_1, fp_2, fp_3, rf_s, rf_n, isRf_b, knw_b, isLg_b, popA_0, popA_s, st1_0, st1_s, st2_e, set_0, set_s, aftC_e, hxP_s, hxP_n, iteF, iteT, bft, im_t, im_f, nt_f, nt_t, Nat.reduceDiv, Nat.reduceMod, Nat.reduceLeDiff, Nat.reduceLT, Nat.reduceEqDiff, List.length_cons, List.length_nil, Nat.zero_add, Nat.reduceSub, List.cons_append, List.nil_append, ak_i, az_i, ar_i, al_i, ai_i, ak_l, az_l, ar_l, al_l, ai_l, ak_r, az_r, ar_r, al_r, ai_r, pk_m1, reduceCtorEq, msk_tb, mskL, Bool.and_eq_true, decide_eq_true_eq, lg_0, lg_t, lg_g, lg_e, lg_l, tb_z, Nat.mod_eq_of_lt, lN_1s, and_ze, brT, brF, brN, vpT, a4095, a63, nI_e, nI_l', nI_t', dif_z, and_z, and_zr, lN_e, nI_clamp, nx_shr, Nat.reducePow, bI_0, bI_1, bI_z, bI_o, bI_or, n01, nI_add, pk_mul, nx_and, nx_or, nx_dif, lx_and, lx_or, lx_dif, Bool.not_eq_true, Bool.not_eq_false, Bool.true_eq_false, Bool.false_eq_true, ss_31 hp, k217]
  exact lp 0 (Nat.zero_le _)) Q
end CLS
