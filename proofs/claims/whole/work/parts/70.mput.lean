/-! THE REFERENCE'S DRAFT: PUTTING -/
def hPut (h : AH) (t n p : Nat) (a b : Int32) : AH := ap_i (ap_i (ap_i (ap_i h 51 (t + 1 + 3 * n) (nI p)) 51 (t + 2 + 3 * n) a) 51 (t + 3 + 3 * n) b) 51 t (nI (n + 1))
def R_len (R : RW) : Prop := (∀ l, l < 4 → R_n R l ≤ 3) ∧ R_n R 4 ≤ 4
theorem MRw_put {h : AH} {R : RW} (m : MRw h 51 0 R) (o : R_len R) {l : Nat} (hl : l < 4) (hn : R_n R l < 3) (p x y : Nat) : MRw (hPut h (5 + 10 * l) (R_n R l) p (tm x) (tm y)) 51 0 (addL R l p x y) := by
  obtain ⟨m1, m2, m3, m4, m5, m6, m7, m8⟩ := m
  have ne : ∀ j, (j < 5 + 10 * l ∨ 15 + 10 * l ≤ j) → ah_i (hPut h (5 + 10 * l) (R_n R l) p (tm x) (tm y)) 51 j = ah_i h 51 j := fun j n => (ai_n (by omega)).trans ((ai_n (by omega)).trans ((ai_n (by omega)).trans (ai_n (by omega))))
  refine ⟨?_, fun j hj => ?_, fun j hj => ⟨?_, fun k hk => ?_⟩, fun v hv => ⟨?_, fun z => ?_⟩, ?_, fun z => ⟨?_, ?_⟩, ?_, fun k hk => ⟨?_, ?_, ?_, ?_⟩⟩
  · rw [ne _ (by omega)]; exact m1
  · rw [ne _ (by omega)]; exact m2 j hj
  · rw [n_add]
    by_cases q : j = l
    · subst q
      rw [if_pos rfl, show 0 + (5 + 10 * j) = 5 + 10 * j by omega]
      exact ai_y
    · rw [if_neg q, ne _ (by omega)]; exact (m3 j hj).1
  · rw [n_add] at hk
    have oj := o.1 j hj
    by_cases q : j = l
    · subst q
      rw [if_pos rfl] at hk
      have i1 : 0 + (5 + 10 * j) = 5 + 10 * j := by omega
      rw [i1]
      by_cases q2 : k = R_n R j
      · subst q2
        unfold hPut addL R_p R_a R_b
        simp only [and_self, if_true]
        refine ⟨(ai_n (by omega)).trans ((ai_n (by omega)).trans ((ai_n (by omega)).trans ai_y)), (ai_n (by omega)).trans ((ai_n (by omega)).trans ai_y), (ai_n (by omega)).trans ai_y⟩
      · have := (m3 j hj).2 k (by omega)
        rw [i1] at this
        have e1 : R_p (addL R j p x y) j k = R_p R j k := if_neg (fun z => q2 z.2)
        have e2 : R_a (addL R j p x y) j k = R_a R j k := if_neg (fun z => q2 z.2)
        have e3 : R_b (addL R j p x y) j k = R_b R j k := if_neg (fun z => q2 z.2)
        rw [e1, e2, e3]
        unfold hPut
        exact ⟨(ai_n (by omega)).trans ((ai_n (by omega)).trans ((ai_n (by omega)).trans ((ai_n (by omega)).trans this.1))), (ai_n (by omega)).trans ((ai_n (by omega)).trans ((ai_n (by omega)).trans ((ai_n (by omega)).trans this.2.1))), (ai_n (by omega)).trans ((ai_n (by omega)).trans ((ai_n (by omega)).trans ((ai_n (by omega)).trans this.2.2)))⟩
    · rw [if_neg q] at hk
      have e1 : R_p (addL R l p x y) j k = R_p R j k := if_neg (fun z => q z.1)
      have e2 : R_a (addL R l p x y) j k = R_a R j k := if_neg (fun z => q z.1)
      have e3 : R_b (addL R l p x y) j k = R_b R j k := if_neg (fun z => q z.1)
      rw [e1, e2, e3, ne _ (by omega), ne _ (by omega), ne _ (by omega)]
      exact (m3 j hj).2 k hk
  · rw [ne _ (by omega)]; exact (m4 v hv).1
  · rw [ne _ (by omega)]; exact (m4 v hv).2 z
  · rw [ne _ (by omega)]; exact m5
  · rw [ne _ (by omega)]; exact (m6 z).1
  · rw [ne _ (by omega)]; exact (m6 z).2
  · rw [n_add, if_neg (by omega), ne _ (by omega)]; exact m7
  · rw [n_add, if_neg (by omega)] at hk
    rw [ne _ (by omega)]; exact (m8 k hk).1
  · rw [n_add, if_neg (by omega)] at hk
    have e1 : R_p (addL R l p x y) 4 k = R_p R 4 k := if_neg (fun z => by omega)
    rw [e1, ne _ (by omega)]; exact (m8 k hk).2.1
  · rw [n_add, if_neg (by omega)] at hk
    have e1 : R_a (addL R l p x y) 4 k = R_a R 4 k := if_neg (fun z => by omega)
    rw [e1, ne _ (by omega)]; exact (m8 k hk).2.2.1
  · rw [n_add, if_neg (by omega)] at hk
    have e1 : R_b (addL R l p x y) 4 k = R_b R 4 k := if_neg (fun z => by omega)
    rw [e1, ne _ (by omega)]; exact (m8 k hk).2.2.2
section MDL
variable {sc : (Nat → Int32) × Nat} {d : Nat} {h : AH} {Q : Rs → AH → Prop} {np : Nat} {pl : Nat → Nat} {R : RW}
theorem m_69 (hp : SHP h) {t n p : Nat} (ht : t ≤ 35) (hn : n < 3) (e : ah_i h 51 t = nI n) (a b : Int32) : TC sc (d + 1) 69 [.ref 49, .int (nI t), .int (nI p), .int a, .int b] h Q ↔ Q (.inl (some (.int (nI (n + 1))))) (hPut h t n p a b) := TC_of (fun Q hq => by
  have mid : ∀ H : AH, SHP H → ah_i H 51 t = nI n → Q (.inl (some (.int (nI (n + 1))))) (ap_i H 51 t (nI (n + 1))) → TT sc d 69 Q 38 [.ref 49, .int (nI t), .int (nI p), .int a, .int b, .int (nI n)] [] H := fun H hp g q => by
    refine wx_sound (S := []) 40 true _ _ _ _ ?_
    simp +contextual (disch := omega) only [K69, wx_t, wx_g, wJ_t, wJ_f, wI_s, CI, CL, C01, aftC_v, aftC_n, true_or, or_true, true_and, and_true, inS_n, inS_c, pI_c, pL_c, pA_c, pV_c, pE_c, pQ_s, pQ_n, pQ_r, cm_eq', cm_ne', cm_lt', cm_ge', cm_gt', cm_le', List.getD_cons_zero, List.getD_cons_succ, Nat.reduceAdd, Nat.reduceBEq, Bool.false_or, Bool.or_false, Bool.true_or, Int.reduceToNat, s_iload, s_lload, s_aload, s_istore, s_astore, s_lstore, s_iconst, s_sipush, s_aconst_null, s_iadd, s_isub, s_imul, s_iand, s_ior, s_ixor, s_idiv, s_irem, s_ishl, s_ishr, s_iushr, s_ladd, s_lsub, s_land, s_lor, s_lxor, s_lneg, s_lshl, s_lshr, s_lushr, s_i2l, s_l2i, s_lcmp, s_dup, s_pop, s_dup2, s_i2c, s_i2s, s_monitorenter, s_ifCond, s_if_icmp, s_ifnull, s_goto, s_iinc, s_tableswitch, s_ireturn, s_freturn, s_lreturn, s_areturn, s_return_, s_ldc, s_getfield, s_putfield, s_iaload, s_iastore, s_laload, s_lastore, s_baload, s_bastore, s_aaload, s_aastore, s_arraylength, s_newarray, s_anewarray, s_new, s_invokestatic, s_invokespecial, s_invokevirtual, fvl_0, fvl_1, fvl_2, fvl_3, fp_0, fp_1, fp_2, fp_3, rf_s, rf_n, isRf_b, knw_b, isLg_b, popA_0, popA_s, st1_0, st1_s, st2_e, set_0, set_s, aftC_e, hxP_s, hxP_n, iteF, iteT, bft, im_t, im_f, nt_f, nt_t, Nat.reduceDiv, Nat.reduceMod, Nat.reduceLeDiff, Nat.reduceLT, Nat.reduceEqDiff, List.length_cons, List.length_nil, Nat.zero_add, Nat.reduceSub, List.cons_append, List.nil_append, ak_i, az_i, ar_i, al_i, ai_i, ak_l, az_l, ar_l, al_l, ai_l, ak_r, az_r, ar_r, al_r, ai_r, pk_m1, reduceCtorEq, msk_tb, mskL, Bool.and_eq_true, decide_eq_true_eq, lg_0, lg_t, lg_g, lg_e, lg_l, tb_z, Nat.mod_eq_of_lt, lN_1s, and_ze, brT, brF, brN, vpT, a4095, a63, nI_e, nI_l', nI_t', dif_z, and_z, and_zr, lN_e, nI_clamp, nx_shr, Nat.reducePow, bI_0, bI_1, bI_z, bI_o, bI_or, n01, nI_add, pk_mul, nx_and, nx_or, nx_dif, lx_and, lx_or, lx_dif, Bool.not_eq_true, Bool.not_eq_false, Bool.true_eq_false, Bool.false_eq_true, ss_49 hp, g]
    exact q
  refine TC_e (ls := [.ref 49, .int (nI t), .int (nI p), .int a, .int b, unk]) (Nat.le_of_ble_eq_true rfl) rfl (wx_sound (S := [38]) 60 true _ _ _ _ ?_)
  simp +contextual (disch := omega) only [K69, wx_t, wx_g, wJ_t, wJ_f, wI_s, CI, CL, C01, aftC_v, aftC_n, true_or, or_true, true_and, and_true, inS_n, inS_c, pI_c, pL_c, pA_c, pV_c, pE_c, pQ_s, pQ_n, pQ_r, cm_eq', cm_ne', cm_lt', cm_ge', cm_gt', cm_le', List.getD_cons_zero, List.getD_cons_succ, Nat.reduceAdd, Nat.reduceBEq, Bool.false_or, Bool.or_false, Bool.true_or, Int.reduceToNat, s_iload, s_lload, s_aload, s_istore, s_astore, s_lstore, s_iconst, s_sipush, s_aconst_null, s_iadd, s_isub, s_imul, s_iand, s_ior, s_ixor, s_idiv, s_irem, s_ishl, s_ishr, s_iushr, s_ladd, s_lsub, s_land, s_lor, s_lxor, s_lneg, s_lshl, s_lshr, s_lushr, s_i2l, s_l2i, s_lcmp, s_dup, s_pop, s_dup2, s_i2c, s_i2s, s_monitorenter, s_ifCond, s_if_icmp, s_ifnull, s_goto, s_iinc, s_tableswitch, s_ireturn, s_freturn, s_lreturn, s_areturn, s_return_, s_ldc, s_getfield, s_putfield, s_iaload, s_iastore, s_laload, s_lastore, s_baload, s_bastore, s_aaload, s_aastore, s_arraylength, s_newarray, s_anewarray, s_new, s_invokestatic, s_invokespecial, s_invokevirtual, fvl_0, fvl_1, fvl_2, fvl_3, fp_0, fp_1, fp_2, fp_3, rf_s, rf_n, isRf_b, knw_b, isLg_b, popA_0, popA_s, st1_0, st1_s, st2_e, set_0, set_s, aftC_e, hxP_s, hxP_n, iteF, iteT, bft, im_t, im_f, nt_f, nt_t, Nat.reduceDiv, Nat.reduceMod, Nat.reduceLeDiff, Nat.reduceLT, Nat.reduceEqDiff, List.length_cons, List.length_nil, Nat.zero_add, Nat.reduceSub, List.cons_append, List.nil_append, ak_i, az_i, ar_i, al_i, ai_i, ak_l, az_l, ar_l, al_l, ai_l, ak_r, az_r, ar_r, al_r, ai_r, pk_m1, reduceCtorEq, msk_tb, mskL, Bool.and_eq_true, decide_eq_true_eq, lg_0, lg_t, lg_g, lg_e, lg_l, tb_z, Nat.mod_eq_of_lt, lN_1s, and_ze, brT, brF, brN, vpT, a4095, a63, nI_e, nI_l', nI_t', dif_z, and_z, and_zr, lN_e, nI_clamp, nx_shr, Nat.reducePow, bI_0, bI_1, bI_z, bI_o, bI_or, n01, nI_add, pk_mul, nx_and, nx_or, nx_dif, lx_and, lx_or, lx_dif, Bool.not_eq_true, Bool.not_eq_false, Bool.true_eq_false, Bool.false_eq_true, ss_49 hp, e]
  refine mid _ hp ?_ hq
  exact (ai_n (by omega)).trans ((ai_n (by omega)).trans ((ai_n (by omega)).trans e))) Q
end MDL
