/-! RANK, LOOP, BAR -/
theorem low_ex : ∀ (n x : Nat), 0 < x → x < 2 ^ n → ∃ k, k < n ∧ x.testBit k = true ∧ (∀ j, j < k → x.testBit j = false) ∧ x &&& (2 ^ n - x) = 2 ^ k
  | 0, x, h0, h1 => by omega
  | n + 1, x, h0, h1 => by
    have hp : 2 ^ (n + 1) = 2 * 2 ^ n := Nat.pow_succ'
    have pz := Nat.two_pow_pos n
    by_cases e : x % 2 = 0
    · obtain ⟨k, k1, k2, k3, k4⟩ := low_ex n (x / 2) (by omega) (by omega)
      refine ⟨k + 1, by omega, by rw [Nat.testBit_succ]; exact k2, fun j hj => ?_, ?_⟩
      · cases j with
        | zero => rw [Nat.testBit_zero]; simp [e]
        | succ j => rw [Nat.testBit_succ]; exact k3 j (by omega)
      · refine Nat.eq_of_testBit_eq fun i => ?_
        have e2 : (2 ^ (n + 1) - x) / 2 = 2 ^ n - x / 2 := by omega
        have e3 : (2 ^ (n + 1) - x) % 2 = 0 := by omega
        cases i with
        | zero => rw [Nat.testBit_and, Nat.testBit_zero, tb_pow]; simp [e]
        | succ i =>
          have := congrArg (fun z => z.testBit i) k4
          rw [Nat.testBit_and, Nat.testBit_succ, Nat.testBit_succ, e2, ← Nat.testBit_and, k4, tb_pow, tb_pow]
          simp
    · refine ⟨0, by omega, by rw [Nat.testBit_zero]; simp; omega, fun j hj => absurd hj (by omega), ?_⟩
      refine Nat.eq_of_testBit_eq fun i => ?_
      have e2 : (2 ^ (n + 1) - x) / 2 = 2 ^ n - (x / 2 + 1) := by omega
      have e3 : (2 ^ (n + 1) - x) % 2 = 1 := by omega
      cases i with
      | zero => rw [Nat.testBit_and, Nat.testBit_zero, Nat.testBit_zero, tb_pow, e3]; simp; omega
      | succ i =>
        rw [Nat.testBit_and, Nat.testBit_succ, Nat.testBit_succ, e2, Nat.testBit_two_pow_sub_succ (by omega), tb_pow]
        cases (x / 2).testBit i <;> simp
theorem lN_neg {x : Nat} (h : x < 2 ^ 62) : -(lN x) = lN (2 ^ 64 - x) := by
  have : lN x + lN (2 ^ 64 - x) = 0 := by
    rw [lN_add]
    have : x + (2 ^ 64 - x) = 2 ^ 64 := by omega
    rw [this]; rfl
  have h2 : -(lN x) = -(lN x) + (lN x + lN (2 ^ 64 - x)) := by rw [this, Int64.add_zero]
  rw [h2, ← Int64.add_assoc, Int64.add_left_neg, Int64.zero_add]
section CLS
variable {sc : (Nat → Int32) × Nat} {d : Nat} {h : AH} {Q : Rs → AH → Prop} {P : PG} {A T F : Nat} {pc : Nat} {pa pb : Nat → Nat}
theorem d_279 {k : Nat} (hk : k < 60) : TC sc (d + 1) 279 [.long (lN (2 ^ k - 1))] h Q ↔ Q (.inl (some (.int (nI k)))) h := TC_of (fun Q hq => by
  generalize hx : lN (2 ^ k - 1) = x
  refine TC_e (ls := [.long x, unk]) (Nat.le_of_ble_eq_true rfl) rfl (wx_sound (S := []) 60 true _ _ _ _ ?_)
  simp +contextual (disch := omega) only [K279, wx_t, wx_g, wJ_t, wJ_f, wI_s, CI, CL, C01, aftC_v, aftC_n, true_or, or_true, true_and, and_true, inS_n, inS_c, pI_c, pL_c, pA_c, pV_c, pE_c, pQ_s, pQ_n, pQ_r, cm_eq', cm_ne', cm_lt', cm_ge', cm_gt', cm_le', List.getD_cons_zero, List.getD_cons_succ, Nat.reduceAdd, Nat.reduceBEq, Bool.false_or, Bool.or_false, Bool.true_or, Int.reduceToNat, s_iload, s_lload, s_aload, s_istore, s_astore, s_lstore, s_iconst, s_sipush, s_aconst_null, s_iadd, s_isub, s_imul, s_iand, s_ior, s_ixor, s_idiv, s_irem, s_ishl, s_ishr, s_iushr, s_ladd, s_lsub, s_land, s_lor, s_lxor, s_lneg, s_lshl, s_lshr, s_lushr, s_i2l, s_l2i, s_lcmp, s_dup, s_pop, s_dup2, s_i2c, s_i2s, s_monitorenter, s_ifCond, s_if_icmp, s_ifnull, s_goto, s_iinc, s_tableswitch, s_ireturn, s_freturn, s_lreturn, s_areturn, s_return_, s_ldc, s_getfield, s_putfield, s_iaload, s_iastore, s_laload, s_lastore, s_baload, s_bastore, s_aaload, s_aastore, s_arraylength, s_newarray, s_anewarray, s_new, s_invokestatic, s_invokespecial, s_invokevirtual, fvl_0, fvl_1, fvl_2, fvl_3, fp_0, fp_1, fp_2, fp_3, rf_s, rf_n, isRf_b, knw_b, isLg_b, popA_0, popA_s, st1_0, st1_s, st2_e, set_0, set_s, aftC_e, hxP_s, hxP_n, iteF, iteT, bft, im_t, im_f, nt_f, nt_t, Nat.reduceDiv, Nat.reduceMod, Nat.reduceLeDiff, Nat.reduceLT, Nat.reduceEqDiff, List.length_cons, List.length_nil, Nat.zero_add, Nat.reduceSub, List.cons_append, List.nil_append, ak_i, az_i, ar_i, al_i, ai_i, ak_l, az_l, ar_l, al_l, ai_l, ak_r, az_r, ar_r, al_r, ai_r, pk_m1, reduceCtorEq, msk_tb, mskL, Bool.and_eq_true, decide_eq_true_eq, lg_0, lg_t, lg_g, lg_e, lg_l, tb_z, Nat.mod_eq_of_lt, lN_1s, and_ze, brT, brF, brN, vpT, a4095, a63, nI_e, nI_l', nI_t', dif_z, and_z, and_zr, lN_e, nI_clamp, nx_shr, Nat.reducePow, bI_0, bI_1, bI_z, bI_o, bI_or, n01, nI_add, pk_mul, nx_and, nx_or, nx_dif, lx_and, lx_or, lx_dif, Bool.not_eq_true, Bool.not_eq_false, Bool.true_eq_false, Bool.false_eq_true]
  refine lfI hq ?_
  clear hq
  subst hx
  clear Q
  revert k
  decide +kernel) Q
theorem d_58 {x k : Nat} (hx : x < 2 ^ 60) (hk : x.testBit k = true) (hl : ∀ j, j < k → x.testBit j = false) : TC sc (d + 2) 58 [.long (lN x)] h Q ↔ Q (.inl (some (.int (nI k)))) h := TC_of (fun Q hq => by
  have x0 : 0 < x := by
    rcases Nat.eq_zero_or_pos x with e | e
    · subst e; rw [Nat.zero_testBit] at hk; cases hk
    · exact e
  obtain ⟨j, j1, j2, j3, j4⟩ := low_ex 64 x x0 (Nat.lt_trans hx (by decide))
  have jk : j = k := by
    rcases Nat.lt_trichotomy j k with z | z | z
    · rw [hl j z] at j2; cases j2
    · exact z
    · rw [j3 k z] at hk; cases hk
  subst jk
  have k60 : j < 60 := by
    rcases Nat.lt_or_ge j 60 with z | z
    · exact z
    · rw [tb_ge hx z] at hk; cases hk
  have e : (lN x &&& -lN x) - lN 1 = lN (2 ^ j - 1) := by
    rw [lN_neg (Nat.lt_trans hx (by decide)), lx_and, j4, lN_1s (Nat.two_pow_pos j)]
  refine TC_e (ls := [.long (lN x), unk]) (Nat.le_of_ble_eq_true rfl) rfl (wx_sound (S := []) 40 true _ _ _ _ ?_)
  simp +contextual (disch := omega) only [K58, wx_t, wx_g, wJ_t, wJ_f, wI_s, CI, CL, C01, aftC_v, aftC_n, true_or, or_true, true_and, and_true, inS_n, inS_c, pI_c, pL_c, pA_c, pV_c, pE_c, pQ_s, pQ_n, pQ_r, cm_eq', cm_ne', cm_lt', cm_ge', cm_gt', cm_le', List.getD_cons_zero, List.getD_cons_succ, Nat.reduceAdd, Nat.reduceBEq, Bool.false_or, Bool.or_false, Bool.true_or, Int.reduceToNat, s_iload, s_lload, s_aload, s_istore, s_astore, s_lstore, s_iconst, s_sipush, s_aconst_null, s_iadd, s_isub, s_imul, s_iand, s_ior, s_ixor, s_idiv, s_irem, s_ishl, s_ishr, s_iushr, s_ladd, s_lsub, s_land, s_lor, s_lxor, s_lneg, s_lshl, s_lshr, s_lushr, s_i2l, s_l2i, s_lcmp, s_dup, s_pop, s_dup2, s_i2c, s_i2s, s_monitorenter, s_ifCond, s_if_icmp, s_ifnull, s_goto, s_iinc, s_tableswitch, s_ireturn, s_freturn, s_lreturn, s_areturn, s_return_, s_ldc, s_getfield, s_putfield, s_iaload, s_iastore, s_laload, s_lastore, s_baload, s_bastore, s_aaload, s_aastore, s_arraylength, s_newarray, s_anewarray, s_new, s_invokestatic, s_invokespecial, s_invokevirtual, fvl_0, fvl_1, fvl_2, fvl_3, fp_0, fp_1, fp_2, fp_3, rf_s, rf_n, isRf_b, knw_b, isLg_b, popA_0, popA_s, st1_0, st1_s, st2_e, set_0, set_s, aftC_e, hxP_s, hxP_n, iteF, iteT, bft, im_t, im_f, nt_f, nt_t, Nat.reduceDiv, Nat.reduceMod, Nat.reduceLeDiff, Nat.reduceLT, Nat.reduceEqDiff, List.length_cons, List.length_nil, Nat.zero_add, Nat.reduceSub, List.cons_append, List.nil_append, ak_i, az_i, ar_i, al_i, ai_i, ak_l, az_l, ar_l, al_l, ai_l, ak_r, az_r, ar_r, al_r, ai_r, pk_m1, reduceCtorEq, msk_tb, mskL, Bool.and_eq_true, decide_eq_true_eq, lg_0, lg_t, lg_g, lg_e, lg_l, tb_z, Nat.mod_eq_of_lt, lN_1s, and_ze, brT, brF, brN, vpT, a4095, a63, nI_e, nI_l', nI_t', dif_z, and_z, and_zr, lN_e, nI_clamp, nx_shr, Nat.reducePow, bI_0, bI_1, bI_z, bI_o, bI_or, n01, nI_add, pk_mul, nx_and, nx_or, nx_dif, lx_and, lx_or, lx_dif, Bool.not_eq_true, Bool.not_eq_false, Bool.true_eq_false, Bool.false_eq_true, e, d_279 k60]
  exact hq) Q
def rkr (P : PG) (T F : Nat) (pc : Nat) (pa pb : Nat → Nat) (s : Nat) (v : Int32) : Prop :=
  (¬ best P T F s ∧ v = nI 0) ∨ (best P T F s ∧ (∃ t, aset P T F t = true ∧ prf pc pa pb t s ∧ best P T F t) ∧ v = nI 1) ∨ (best P T F s ∧ ¬ (∃ t, aset P T F t = true ∧ prf pc pa pb t s ∧ best P T F t) ∧ v = nI 2)
theorem best_c {s x : Nat} (hs : aset P T F s = true) (hx : aset P T F x = true) (mx : ∀ u, aset P T F u = true → ¬ L3 P u x) : cl3 P s x 3 = nI 0 ↔ best P T F s := by
  rw [cl3_z]
  constructor
  · exact fun ⟨h1, h2⟩ t ht => L3_nt (mx t ht) h2
  · exact fun b => ⟨mx s hs, b x hx⟩
theorem d_26 (q0 : QS h P A T F) (p0 : PRF h pc pa pb) {i : Nat} (hi : i < cnt (aset P T F) 4096) : TC sc (d + 7) 26 [.ref 0, .int (nI i)] h fun q h' => RQ h P A T F h' ∧ ∃ v, q = .inl (some (.int v)) ∧ rkr P T F pc pa pb (nths (aset P T F) i 4096) v := by
  generalize hQ : (fun (q : Rs) (h' : AH) => RQ h P A T F h' ∧ ∃ v, q = .inl (some (.int v)) ∧ rkr P T F pc pa pb (nths (aset P T F) i 4096) v) = Q
  have pn := q0.1.pn
  refine TC_e (ls := [.ref 0, .int (nI i), unk, unk]) (Nat.le_of_ble_eq_true rfl) rfl (wx_sound (S := [16]) 40 true _ _ _ _ ?_)
  simp +contextual (disch := omega) only [K26, wx_t, wx_g, wJ_t, wJ_f, wI_s, CI, CL, C01, aftC_v, aftC_n, true_or, or_true, true_and, and_true, inS_n, inS_c, pI_c, pL_c, pA_c, pV_c, pE_c, pQ_s, pQ_n, pQ_r, cm_eq', cm_ne', cm_lt', cm_ge', cm_gt', cm_le', List.getD_cons_zero, List.getD_cons_succ, Nat.reduceAdd, Nat.reduceBEq, Bool.false_or, Bool.or_false, Bool.true_or, Int.reduceToNat, s_iload, s_lload, s_aload, s_istore, s_astore, s_lstore, s_iconst, s_sipush, s_aconst_null, s_iadd, s_isub, s_imul, s_iand, s_ior, s_ixor, s_idiv, s_irem, s_ishl, s_ishr, s_iushr, s_ladd, s_lsub, s_land, s_lor, s_lxor, s_lneg, s_lshl, s_lshr, s_lushr, s_i2l, s_l2i, s_lcmp, s_dup, s_pop, s_dup2, s_i2c, s_i2s, s_monitorenter, s_ifCond, s_if_icmp, s_ifnull, s_goto, s_iinc, s_tableswitch, s_ireturn, s_freturn, s_lreturn, s_areturn, s_return_, s_ldc, s_getfield, s_putfield, s_iaload, s_iastore, s_laload, s_lastore, s_baload, s_bastore, s_aaload, s_aastore, s_arraylength, s_newarray, s_anewarray, s_new, s_invokestatic, s_invokespecial, s_invokevirtual, fvl_0, fvl_1, fvl_2, fvl_3, fp_0, fp_1, fp_2, fp_3, rf_s, rf_n, isRf_b, knw_b, isLg_b, popA_0, popA_s, st1_0, st1_s, st2_e, set_0, set_s, aftC_e, hxP_s, hxP_n, iteF, iteT, bft, im_t, im_f, nt_f, nt_t, Nat.reduceDiv, Nat.reduceMod, Nat.reduceLeDiff, Nat.reduceLT, Nat.reduceEqDiff, List.length_cons, List.length_nil, Nat.zero_add, Nat.reduceSub, List.cons_append, List.nil_append, ak_i, az_i, ar_i, al_i, ai_i, ak_l, az_l, ar_l, al_l, ai_l, ak_r, az_r, ar_r, al_r, ai_r, pk_m1, reduceCtorEq, msk_tb, mskL, Bool.and_eq_true, decide_eq_true_eq, lg_0, lg_t, lg_g, lg_e, lg_l, tb_z, Nat.mod_eq_of_lt, lN_1s, and_ze, brT, brF, brN, vpT, a4095, a63, nI_e, nI_l', nI_t', dif_z, and_z, and_zr, lN_e, nI_clamp, nx_shr, Nat.reducePow, bI_0, bI_1, bI_z, bI_o, bI_or, n01, nI_add, pk_mul, nx_and, nx_or, nx_dif, lx_and, lx_or, lx_dif, Bool.not_eq_true, Bool.not_eq_false, Bool.true_eq_false, Bool.false_eq_true, ss_0 q0.1.1]
  refine TC_mono (d_44 q0 hi) ?_
  rintro q h2 ⟨rfl, ⟨f2, q2⟩, s2⟩
  have a1 := (nths_ok hi).2.1
  generalize nths (aset P T F) i 4096 = s at *
  have nl := aset_n a1
  simp +contextual (disch := omega) only [K26, wx_t, wx_g, wJ_t, wJ_f, wI_s, CI, CL, C01, aftC_v, aftC_n, true_or, or_true, true_and, and_true, inS_n, inS_c, pI_c, pL_c, pA_c, pV_c, pE_c, pQ_s, pQ_n, pQ_r, cm_eq', cm_ne', cm_lt', cm_ge', cm_gt', cm_le', List.getD_cons_zero, List.getD_cons_succ, Nat.reduceAdd, Nat.reduceBEq, Bool.false_or, Bool.or_false, Bool.true_or, Int.reduceToNat, s_iload, s_lload, s_aload, s_istore, s_astore, s_lstore, s_iconst, s_sipush, s_aconst_null, s_iadd, s_isub, s_imul, s_iand, s_ior, s_ixor, s_idiv, s_irem, s_ishl, s_ishr, s_iushr, s_ladd, s_lsub, s_land, s_lor, s_lxor, s_lneg, s_lshl, s_lshr, s_lushr, s_i2l, s_l2i, s_lcmp, s_dup, s_pop, s_dup2, s_i2c, s_i2s, s_monitorenter, s_ifCond, s_if_icmp, s_ifnull, s_goto, s_iinc, s_tableswitch, s_ireturn, s_freturn, s_lreturn, s_areturn, s_return_, s_ldc, s_getfield, s_putfield, s_iaload, s_iastore, s_laload, s_lastore, s_baload, s_bastore, s_aaload, s_aastore, s_arraylength, s_newarray, s_anewarray, s_new, s_invokestatic, s_invokespecial, s_invokevirtual, fvl_0, fvl_1, fvl_2, fvl_3, fp_0, fp_1, fp_2, fp_3, rf_s, rf_n, isRf_b, knw_b, isLg_b, popA_0, popA_s, st1_0, st1_s, st2_e, set_0, set_s, aftC_e, hxP_s, hxP_n, iteF, iteT, bft, im_t, im_f, nt_f, nt_t, Nat.reduceDiv, Nat.reduceMod, Nat.reduceLeDiff, Nat.reduceLT, Nat.reduceEqDiff, List.length_cons, List.length_nil, Nat.zero_add, Nat.reduceSub, List.cons_append, List.nil_append, ak_i, az_i, ar_i, al_i, ai_i, ak_l, az_l, ar_l, al_l, ai_l, ak_r, az_r, ar_r, al_r, ai_r, pk_m1, reduceCtorEq, msk_tb, mskL, Bool.and_eq_true, decide_eq_true_eq, lg_0, lg_t, lg_g, lg_e, lg_l, tb_z, Nat.mod_eq_of_lt, lN_1s, and_ze, brT, brF, brN, vpT, a4095, a63, nI_e, nI_l', nI_t', dif_z, and_z, and_zr, lN_e, nI_clamp, nx_shr, Nat.reducePow, bI_0, bI_1, bI_z, bI_o, bI_or, n01, nI_add, pk_mul, nx_and, nx_or, nx_dif, lx_and, lx_or, lx_dif, Bool.not_eq_true, Bool.not_eq_false, Bool.true_eq_false, Bool.false_eq_true, ss_0 q2.1.1]
  refine TC_mono (d_53 q2 s2) ?_
  rintro q h3 ⟨rfl, ⟨f3, q3⟩, s3, r3, c3⟩
  have p3 := (p0.fq f2).fq f3
  rcases c3 with ⟨-, c3⟩ | ⟨x, c3, c4, c5, c6⟩
  · rw [c3 s (by omega)] at a1; cases a1
  have mx : ∀ u, aset P T F u = true → ¬ L3 P u x := fun u hu q => c6 u (Nat.lt_of_lt_of_le (aset_n hu) pn) hu (cl3_l.mpr q)
  have nx := aset_n c5
  have bc := best_c (P := P) (T := T) (F := F) a1 c5 mx
  have lp : best P T F s → ∀ k, k ≤ 2 ^ P_n P → (∀ t, t < k → ¬ (aset P T F t = true ∧ prf pc pa pb t s ∧ best P T F t)) → TT sc (d + 6) 26 Q 16 [.ref 0, .int (nI i), .int (nI s), .int (nI k)] [] h3 := by
    intro bs
    refine up_to fun k hk ih => ?_
    intro H
    by_cases e : k < 2 ^ P_n P
    · refine wx_sound (S := [16]) 60 true _ _ _ _ ?_
      simp +contextual (disch := omega) only [K26, wx_t, wx_g, wJ_t, wJ_f, wI_s, CI, CL, C01, aftC_v, aftC_n, true_or, or_true, true_and, and_true, inS_n, inS_c, pI_c, pL_c, pA_c, pV_c, pE_c, pQ_s, pQ_n, pQ_r, cm_eq', cm_ne', cm_lt', cm_ge', cm_gt', cm_le', List.getD_cons_zero, List.getD_cons_succ, Nat.reduceAdd, Nat.reduceBEq, Bool.false_or, Bool.or_false, Bool.true_or, Int.reduceToNat, s_iload, s_lload, s_aload, s_istore, s_astore, s_lstore, s_iconst, s_sipush, s_aconst_null, s_iadd, s_isub, s_imul, s_iand, s_ior, s_ixor, s_idiv, s_irem, s_ishl, s_ishr, s_iushr, s_ladd, s_lsub, s_land, s_lor, s_lxor, s_lneg, s_lshl, s_lshr, s_lushr, s_i2l, s_l2i, s_lcmp, s_dup, s_pop, s_dup2, s_i2c, s_i2s, s_monitorenter, s_ifCond, s_if_icmp, s_ifnull, s_goto, s_iinc, s_tableswitch, s_ireturn, s_freturn, s_lreturn, s_areturn, s_return_, s_ldc, s_getfield, s_putfield, s_iaload, s_iastore, s_laload, s_lastore, s_baload, s_bastore, s_aaload, s_aastore, s_arraylength, s_newarray, s_anewarray, s_new, s_invokestatic, s_invokespecial, s_invokevirtual, fvl_0, fvl_1, fvl_2, fvl_3, fp_0, fp_1, fp_2, fp_3, rf_s, rf_n, isRf_b, knw_b, isLg_b, popA_0, popA_s, st1_0, st1_s, st2_e, set_0, set_s, aftC_e, hxP_s, hxP_n, iteF, iteT, bft, im_t, im_f, nt_f, nt_t, Nat.reduceDiv, Nat.reduceMod, Nat.reduceLeDiff, Nat.reduceLT, Nat.reduceEqDiff, List.length_cons, List.length_nil, Nat.zero_add, Nat.reduceSub, List.cons_append, List.nil_append, ak_i, az_i, ar_i, al_i, ai_i, ak_l, az_l, ar_l, al_l, ai_l, ak_r, az_r, ar_r, al_r, ai_r, pk_m1, reduceCtorEq, msk_tb, mskL, Bool.and_eq_true, decide_eq_true_eq, lg_0, lg_t, lg_g, lg_e, lg_l, tb_z, Nat.mod_eq_of_lt, lN_1s, and_ze, brT, brF, brN, vpT, a4095, a63, nI_e, nI_l', nI_t', dif_z, and_z, and_zr, lN_e, nI_clamp, nx_shr, Nat.reducePow, bI_0, bI_1, bI_z, bI_o, bI_or, n01, nI_add, pk_mul, nx_and, nx_or, nx_dif, lx_and, lx_or, lx_dif, Bool.not_eq_true, Bool.not_eq_false, Bool.true_eq_false, Bool.false_eq_true, ss_0 q3.1.1, ss_19 q3.1.1, ss_23 q3.1.1, ss_27 q3.1.1, ss_28 q3.1.1, ss_31 q3.1.1, ss_43 q3.1.1, ss_45 q3.1.1, ss_46 q3.1.1, ss_49 q3.1.1, d_203 q3.1, q3.fd s3 e, d_200 q3.1.1 p3 (s := k) (t := s) (by omega) (by omega), c3, d_54 q3.1 e nx, bP_t, bP_f]
      have nt : ¬ (aset P T F k = true ∧ prf pc pa pb k s ∧ best P T F k) → TT sc (d + 6) 26 Q 16 [.ref 0, .int (nI i), .int (nI s), .int (nI (k + 1))] [] h3 := fun n => ih e fun t ht => by
        rcases Nat.lt_or_ge t k with z | z
        · exact H t z
        · have : t = k := by omega
          rw [this]; exact n
      refine And.intro (fun e1 => nt fun z => by rw [e1] at z; cases z.1) fun e1 => And.intro (fun e2 => And.intro (fun e3 => ?_) fun e3 => ?_) fun e2 => nt fun z => e2 z.2.1
      · rw [← hQ]
        exact ⟨⟨f2.trans f3 fun _ _ z => z, q3⟩, _, rfl, Or.inr (Or.inl ⟨bs, ⟨k, e1, e2, (best_c e1 c5 mx).mp e3⟩, rfl⟩)⟩
      · exact nt fun z => e3 ((best_c e1 c5 mx).mpr z.2.2)
    · have : k = 2 ^ P_n P := by omega
      subst this
      refine wx_sound (S := [16]) 60 true _ _ _ _ ?_
      simp +contextual (disch := omega) only [K26, wx_t, wx_g, wJ_t, wJ_f, wI_s, CI, CL, C01, aftC_v, aftC_n, true_or, or_true, true_and, and_true, inS_n, inS_c, pI_c, pL_c, pA_c, pV_c, pE_c, pQ_s, pQ_n, pQ_r, cm_eq', cm_ne', cm_lt', cm_ge', cm_gt', cm_le', List.getD_cons_zero, List.getD_cons_succ, Nat.reduceAdd, Nat.reduceBEq, Bool.false_or, Bool.or_false, Bool.true_or, Int.reduceToNat, s_iload, s_lload, s_aload, s_istore, s_astore, s_lstore, s_iconst, s_sipush, s_aconst_null, s_iadd, s_isub, s_imul, s_iand, s_ior, s_ixor, s_idiv, s_irem, s_ishl, s_ishr, s_iushr, s_ladd, s_lsub, s_land, s_lor, s_lxor, s_lneg, s_lshl, s_lshr, s_lushr, s_i2l, s_l2i, s_lcmp, s_dup, s_pop, s_dup2, s_i2c, s_i2s, s_monitorenter, s_ifCond, s_if_icmp, s_ifnull, s_goto, s_iinc, s_tableswitch, s_ireturn, s_freturn, s_lreturn, s_areturn, s_return_, s_ldc, s_getfield, s_putfield, s_iaload, s_iastore, s_laload, s_lastore, s_baload, s_bastore, s_aaload, s_aastore, s_arraylength, s_newarray, s_anewarray, s_new, s_invokestatic, s_invokespecial, s_invokevirtual, fvl_0, fvl_1, fvl_2, fvl_3, fp_0, fp_1, fp_2, fp_3, rf_s, rf_n, isRf_b, knw_b, isLg_b, popA_0, popA_s, st1_0, st1_s, st2_e, set_0, set_s, aftC_e, hxP_s, hxP_n, iteF, iteT, bft, im_t, im_f, nt_f, nt_t, Nat.reduceDiv, Nat.reduceMod, Nat.reduceLeDiff, Nat.reduceLT, Nat.reduceEqDiff, List.length_cons, List.length_nil, Nat.zero_add, Nat.reduceSub, List.cons_append, List.nil_append, ak_i, az_i, ar_i, al_i, ai_i, ak_l, az_l, ar_l, al_l, ai_l, ak_r, az_r, ar_r, al_r, ai_r, pk_m1, reduceCtorEq, msk_tb, mskL, Bool.and_eq_true, decide_eq_true_eq, lg_0, lg_t, lg_g, lg_e, lg_l, tb_z, Nat.mod_eq_of_lt, lN_1s, and_ze, brT, brF, brN, vpT, a4095, a63, nI_e, nI_l', nI_t', dif_z, and_z, and_zr, lN_e, nI_clamp, nx_shr, Nat.reducePow, bI_0, bI_1, bI_z, bI_o, bI_or, n01, nI_add, pk_mul, nx_and, nx_or, nx_dif, lx_and, lx_or, lx_dif, Bool.not_eq_true, Bool.not_eq_false, Bool.true_eq_false, Bool.false_eq_true, ss_0 q3.1.1, ss_19 q3.1.1, ss_23 q3.1.1, ss_27 q3.1.1, ss_28 q3.1.1, ss_31 q3.1.1, ss_43 q3.1.1, ss_45 q3.1.1, ss_46 q3.1.1, ss_49 q3.1.1, d_203 q3.1]
      rw [← hQ]
      exact ⟨⟨f2.trans f3 fun _ _ z => z, q3⟩, _, rfl, Or.inr (Or.inr ⟨bs, fun ⟨t, h1, h2⟩ => H t (aset_n h1) ⟨h1, h2⟩, rfl⟩)⟩
  simp +contextual (disch := omega) only [K26, wx_t, wx_g, wJ_t, wJ_f, wI_s, CI, CL, C01, aftC_v, aftC_n, true_or, or_true, true_and, and_true, inS_n, inS_c, pI_c, pL_c, pA_c, pV_c, pE_c, pQ_s, pQ_n, pQ_r, cm_eq', cm_ne', cm_lt', cm_ge', cm_gt', cm_le', List.getD_cons_zero, List.getD_cons_succ, Nat.reduceAdd, Nat.reduceBEq, Bool.false_or, Bool.or_false, Bool.true_or, Int.reduceToNat, s_iload, s_lload, s_aload, s_istore, s_astore, s_lstore, s_iconst, s_sipush, s_aconst_null, s_iadd, s_isub, s_imul, s_iand, s_ior, s_ixor, s_idiv, s_irem, s_ishl, s_ishr, s_iushr, s_ladd, s_lsub, s_land, s_lor, s_lxor, s_lneg, s_lshl, s_lshr, s_lushr, s_i2l, s_l2i, s_lcmp, s_dup, s_pop, s_dup2, s_i2c, s_i2s, s_monitorenter, s_ifCond, s_if_icmp, s_ifnull, s_goto, s_iinc, s_tableswitch, s_ireturn, s_freturn, s_lreturn, s_areturn, s_return_, s_ldc, s_getfield, s_putfield, s_iaload, s_iastore, s_laload, s_lastore, s_baload, s_bastore, s_aaload, s_aastore, s_arraylength, s_newarray, s_anewarray, s_new, s_invokestatic, s_invokespecial, s_invokevirtual, fvl_0, fvl_1, fvl_2, fvl_3, fp_0, fp_1, fp_2, fp_3, rf_s, rf_n, isRf_b, knw_b, isLg_b, popA_0, popA_s, st1_0, st1_s, st2_e, set_0, set_s, aftC_e, hxP_s, hxP_n, iteF, iteT, bft, im_t, im_f, nt_f, nt_t, Nat.reduceDiv, Nat.reduceMod, Nat.reduceLeDiff, Nat.reduceLT, Nat.reduceEqDiff, List.length_cons, List.length_nil, Nat.zero_add, Nat.reduceSub, List.cons_append, List.nil_append, ak_i, az_i, ar_i, al_i, ai_i, ak_l, az_l, ar_l, al_l, ai_l, ak_r, az_r, ar_r, al_r, ai_r, pk_m1, reduceCtorEq, msk_tb, mskL, Bool.and_eq_true, decide_eq_true_eq, lg_0, lg_t, lg_g, lg_e, lg_l, tb_z, Nat.mod_eq_of_lt, lN_1s, and_ze, brT, brF, brN, vpT, a4095, a63, nI_e, nI_l', nI_t', dif_z, and_z, and_zr, lN_e, nI_clamp, nx_shr, Nat.reducePow, bI_0, bI_1, bI_z, bI_o, bI_or, n01, nI_add, pk_mul, nx_and, nx_or, nx_dif, lx_and, lx_or, lx_dif, Bool.not_eq_true, Bool.not_eq_false, Bool.true_eq_false, Bool.false_eq_true, ss_0 q3.1.1, c3, d_54 q3.1 nl nx]
  refine And.intro (fun e1 => lp (bc.mp e1) 0 (Nat.zero_le _) fun t ht => absurd ht (by omega)) fun e1 => ?_
  rw [← hQ]
  exact ⟨⟨f2.trans f3 fun _ _ z => z, q3⟩, _, rfl, Or.inl ⟨fun b => e1 (bc.mpr b), rfl⟩⟩
end CLS
