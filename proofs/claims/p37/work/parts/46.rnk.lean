/-! RANK, THE BAR, THE LOOP -/
def L3 (P : PG) (s t : Nat) : Prop := cst P s (nI 2) (P_m P) < cst P t (nI 2) (P_m P) ∨ cst P s (nI 2) (P_m P) = cst P t (nI 2) (P_m P) ∧ (cst P s (nI 1) (P_m P) < cst P t (nI 1) (P_m P) ∨ cst P s (nI 1) (P_m P) = cst P t (nI 1) (P_m P) ∧ cst P s (nI 0) (P_m P) < cst P t (nI 0) (P_m P))
theorem L3_i (P : PG) : ∃ a b c : Nat → Int, ∀ s t, L3 P s t ↔ (a s < a t ∨ a s = a t ∧ (b s < b t ∨ b s = b t ∧ c s < c t)) := by
  refine ⟨fun s => (cst P s (nI 2) (P_m P)).toInt, fun s => (cst P s (nI 1) (P_m P)).toInt, fun s => (cst P s (nI 0) (P_m P)).toInt, fun s t => ?_⟩
  unfold L3
  simp only [Int64.lt_iff_toInt_lt, ← Int64.toInt_inj]
theorem L3_irr (P : PG) (s : Nat) : ¬ L3 P s s := by
  obtain ⟨a, b, c, h⟩ := L3_i P
  rw [h]; omega
theorem L3_tr {P : PG} {s t u : Nat} (h1 : L3 P s t) (h2 : L3 P t u) : L3 P s u := by
  obtain ⟨a, b, c, h⟩ := L3_i P
  rw [h] at *; omega
theorem L3_nt {P : PG} {s t u : Nat} (h1 : ¬ L3 P s t) (h2 : ¬ L3 P t u) : ¬ L3 P s u := by
  obtain ⟨a, b, c, h⟩ := L3_i P
  rw [h] at *; omega
theorem L3_tot {P : PG} {s t : Nat} (h1 : ¬ L3 P s t) (h2 : ¬ L3 P t s) : cst P s (nI 2) (P_m P) = cst P t (nI 2) (P_m P) ∧ cst P s (nI 1) (P_m P) = cst P t (nI 1) (P_m P) ∧ cst P s (nI 0) (P_m P) = cst P t (nI 0) (P_m P) := by
  unfold L3 at *
  simp only [Int64.lt_iff_toInt_lt, ← Int64.toInt_inj] at *
  omega
theorem i_m1 : ((-1 : Int32) < nI 0) = True ∧ ((-1 : Int32) = nI 0) = False ∧ (nI 1 < nI 0) = False ∧ (nI 1 = nI 0) = False ∧ (nI 0 < nI 0) = False := by
  refine ⟨eq_true (by decide), eq_false (by decide), eq_false (by decide), eq_false (by decide), eq_false (by decide)⟩
theorem cl3_l {P : PG} {s t : Nat} : cl3 P s t 3 < nI 0 ↔ L3 P s t := by
  unfold L3 cl3 cl3 cl3 cl3
  obtain ⟨m1, m2, m3, m4, m5⟩ := i_m1
  by_cases h2 : cst P s (nI 2) (P_m P) < cst P t (nI 2) (P_m P)
  · simp only [h2, if_true, Int64.lt_irrefl, or_false, m1, true_or]
  · by_cases e2 : cst P s (nI 2) (P_m P) = cst P t (nI 2) (P_m P)
    · by_cases h1 : cst P s (nI 1) (P_m P) < cst P t (nI 1) (P_m P)
      · simp only [h2, e2, h1, if_true, if_false, Int64.lt_irrefl, or_false, m1, true_or, or_true, true_and]
      · by_cases e1 : cst P s (nI 1) (P_m P) = cst P t (nI 1) (P_m P)
        · by_cases h0 : cst P s (nI 0) (P_m P) < cst P t (nI 0) (P_m P)
          · simp only [h2, e2, h1, e1, h0, if_true, if_false, Int64.lt_irrefl, or_false, m1, or_true, true_and]
          · by_cases e0 : cst P s (nI 0) (P_m P) = cst P t (nI 0) (P_m P)
            · simp only [h2, e2, h1, e1, h0, e0, if_true, if_false, Int64.lt_irrefl, or_false, m5, false_or, or_self, true_and]
            · simp only [h2, e2, h1, e1, h0, e0, if_true, if_false, Int64.lt_irrefl, or_false, m3, false_or, true_and]
        · simp only [h2, e2, h1, e1, if_true, if_false, Int64.lt_irrefl, or_false, m3, false_or, true_and, false_and]
    · simp only [h2, e2, if_false, m3, false_or, false_and]
theorem cl3_z {P : PG} {s t : Nat} : cl3 P s t 3 = nI 0 ↔ ¬ L3 P s t ∧ ¬ L3 P t s := by
  have key : cl3 P s t 3 = nI 0 ↔ cst P s (nI 2) (P_m P) = cst P t (nI 2) (P_m P) ∧ cst P s (nI 1) (P_m P) = cst P t (nI 1) (P_m P) ∧ cst P s (nI 0) (P_m P) = cst P t (nI 0) (P_m P) := by
    unfold cl3 cl3 cl3 cl3
    obtain ⟨m1, m2, m3, m4, m5⟩ := i_m1
    have ir : ∀ a b : Int64, a = b → ¬ a < b := fun a b e => e ▸ Int64.lt_irrefl
    by_cases e2 : cst P s (nI 2) (P_m P) = cst P t (nI 2) (P_m P)
    · by_cases e1 : cst P s (nI 1) (P_m P) = cst P t (nI 1) (P_m P)
      · by_cases e0 : cst P s (nI 0) (P_m P) = cst P t (nI 0) (P_m P)
        · simp only [ir _ _ e2, ir _ _ e1, ir _ _ e0, e2, e1, e0, if_true, if_false, Int64.lt_irrefl, and_self]
        · by_cases h0 : cst P s (nI 0) (P_m P) < cst P t (nI 0) (P_m P) <;> simp only [ir _ _ e2, ir _ _ e1, h0, e2, e1, e0, if_true, if_false, Int64.lt_irrefl, or_false, m2, m4, and_false]
      · by_cases h1 : cst P s (nI 1) (P_m P) < cst P t (nI 1) (P_m P) <;> simp only [ir _ _ e2, h1, e2, e1, if_true, if_false, Int64.lt_irrefl, or_false, m2, m4, and_false, false_and]
    · by_cases h2 : cst P s (nI 2) (P_m P) < cst P t (nI 2) (P_m P) <;> simp only [h2, e2, if_true, if_false, Int64.lt_irrefl, or_false, m2, m4, false_and]
  rw [key]
  constructor
  · rintro ⟨h1, h2, h3⟩
    unfold L3
    rw [h1, h2, h3]
    simp only [Int64.lt_irrefl, false_or, and_false, or_self, not_false_eq_true, and_self]
  · exact fun ⟨h1, h2⟩ => L3_tot h1 h2
section CLS
variable {sc : (Nat → Int32) × Nat} {d : Nat} {h : AH} {Q : Rs → AH → Prop} {P : PG} {A T F : Nat}
theorem d_54 (c : CP h P) {s t : Nat} (hs : s < 2 ^ P_n P) (ht : t < 2 ^ P_n P) : TC sc (d + 3) 54 [.ref 0, .int (nI s), .int (nI t)] h Q ↔ Q (.inl (some (.int (cl3 P s t 3)))) h := TC_of (fun Q hq => by
  have lp : ∀ k, k ≤ 3 → cl3 P s t 3 = cl3 P s t k → ∀ w, TT sc (d + 2) 54 Q 2 [.ref 0, .int (nI s), .int (nI t), .int (nI k + -1), w] [] h := by
    intro k
    induction k with
    | zero =>
      intro _ e w
      refine wx_sound (S := [2]) 60 true _ _ _ _ ?_
      simp +contextual (disch := omega) only [K54, wx_t, wx_g, wJ_t, wJ_f, wI_s, CI, CL, C01, aftC_v, aftC_n, true_or, or_true, true_and, and_true, inS_n, inS_c, pI_c, pL_c, pA_c, pV_c, pE_c, pQ_s, pQ_n, pQ_r, cm_eq', cm_ne', cm_lt', cm_ge', cm_gt', cm_le', List.getD_cons_zero, List.getD_cons_succ, Nat.reduceAdd, Nat.reduceBEq, Bool.false_or, Bool.or_false, Bool.true_or, Int.reduceToNat, s_iload, s_lload, s_aload, s_istore, s_astore, s_lstore, s_iconst, s_sipush, s_aconst_null, s_iadd, s_isub, s_imul, s_iand, s_ior, s_ixor, s_idiv, s_irem, s_ishl, s_ishr, s_iushr, s_ladd, s_lsub, s_land, s_lor, s_lxor, s_lneg, s_lshl, s_lshr, s_lushr, s_i2l, s_l2i, s_lcmp, s_dup, s_pop, s_dup2, s_i2c, s_i2s, s_monitorenter, s_ifCond, s_if_icmp, s_ifnull, s_goto, s_iinc, s_tableswitch, s_ireturn, s_freturn, s_lreturn, s_areturn, s_return_, s_ldc, s_getfield, s_putfield, s_iaload, s_iastore, s_laload, s_lastore, s_baload, s_bastore, s_aaload, s_aastore, s_arraylength, s_newarray, s_anewarray, s_new, s_invokestatic, s_invokespecial, s_invokevirtual, fvl_0, fvl_1, fvl_2, fvl_3, fp_0, fp_1, fp_2, fp_3, rf_s, rf_n, isRf_b, knw_b, isLg_b, popA_0, popA_s, st1_0, st1_s, st2_e, set_0, set_s, aftC_e, hxP_s, hxP_n, iteF, iteT, bft, im_t, im_f, nt_f, nt_t, Nat.reduceDiv, Nat.reduceMod, Nat.reduceLeDiff, Nat.reduceLT, Nat.reduceEqDiff, List.length_cons, List.length_nil, Nat.zero_add, Nat.reduceSub, List.cons_append, List.nil_append, ak_i, az_i, ar_i, al_i, ai_i, ak_l, az_l, ar_l, al_l, ai_l, ak_r, az_r, ar_r, al_r, ai_r, pk_m1, reduceCtorEq, msk_tb, mskL, Bool.and_eq_true, decide_eq_true_eq, lg_0, lg_t, lg_g, lg_e, lg_l, tb_z, Nat.mod_eq_of_lt, lN_1s, and_ze, brT, brF, brN, vpT, a4095, a63, nI_e, nI_l', nI_t', dif_z, and_z, and_zr, lN_e, nI_clamp, nx_shr, Nat.reducePow, bI_0, bI_1, bI_z, bI_o, bI_or, n01, nI_add, pk_mul, nx_and, nx_or, nx_dif, lx_and, lx_or, lx_dif, Bool.not_eq_true, Bool.not_eq_false, Bool.true_eq_false, Bool.false_eq_true, ss_0 c.1]
      rw [e] at hq
      rw [brT (by decide)]
      exact hq
    | succ k ih =>
      intro hk e w
      refine wx_sound (S := [2]) 60 true _ _ _ _ ?_
      simp +contextual (disch := omega) only [K54, wx_t, wx_g, wJ_t, wJ_f, wI_s, CI, CL, C01, aftC_v, aftC_n, true_or, or_true, true_and, and_true, inS_n, inS_c, pI_c, pL_c, pA_c, pV_c, pE_c, pQ_s, pQ_n, pQ_r, cm_eq', cm_ne', cm_lt', cm_ge', cm_gt', cm_le', List.getD_cons_zero, List.getD_cons_succ, Nat.reduceAdd, Nat.reduceBEq, Bool.false_or, Bool.or_false, Bool.true_or, Int.reduceToNat, s_iload, s_lload, s_aload, s_istore, s_astore, s_lstore, s_iconst, s_sipush, s_aconst_null, s_iadd, s_isub, s_imul, s_iand, s_ior, s_ixor, s_idiv, s_irem, s_ishl, s_ishr, s_iushr, s_ladd, s_lsub, s_land, s_lor, s_lxor, s_lneg, s_lshl, s_lshr, s_lushr, s_i2l, s_l2i, s_lcmp, s_dup, s_pop, s_dup2, s_i2c, s_i2s, s_monitorenter, s_ifCond, s_if_icmp, s_ifnull, s_goto, s_iinc, s_tableswitch, s_ireturn, s_freturn, s_lreturn, s_areturn, s_return_, s_ldc, s_getfield, s_putfield, s_iaload, s_iastore, s_laload, s_lastore, s_baload, s_bastore, s_aaload, s_aastore, s_arraylength, s_newarray, s_anewarray, s_new, s_invokestatic, s_invokespecial, s_invokevirtual, fvl_0, fvl_1, fvl_2, fvl_3, fp_0, fp_1, fp_2, fp_3, rf_s, rf_n, isRf_b, knw_b, isLg_b, popA_0, popA_s, st1_0, st1_s, st2_e, set_0, set_s, aftC_e, hxP_s, hxP_n, iteF, iteT, bft, im_t, im_f, nt_f, nt_t, Nat.reduceDiv, Nat.reduceMod, Nat.reduceLeDiff, Nat.reduceLT, Nat.reduceEqDiff, List.length_cons, List.length_nil, Nat.zero_add, Nat.reduceSub, List.cons_append, List.nil_append, ak_i, az_i, ar_i, al_i, ai_i, ak_l, az_l, ar_l, al_l, ai_l, ak_r, az_r, ar_r, al_r, ai_r, pk_m1, reduceCtorEq, msk_tb, mskL, Bool.and_eq_true, decide_eq_true_eq, lg_0, lg_t, lg_g, lg_e, lg_l, tb_z, Nat.mod_eq_of_lt, lN_1s, and_ze, brT, brF, brN, vpT, a4095, a63, nI_e, nI_l', nI_t', dif_z, and_z, and_zr, lN_e, nI_clamp, nx_shr, Nat.reducePow, bI_0, bI_1, bI_z, bI_o, bI_or, n01, nI_add, pk_mul, nx_and, nx_or, nx_dif, lx_and, lx_or, lx_dif, Bool.not_eq_true, Bool.not_eq_false, Bool.true_eq_false, Bool.false_eq_true, ss_0 c.1, ss_31 c.1, d_225 c hs, d_225 c ht, d_280]
      obtain ⟨m1, m2, m3, m4, m5⟩ := i_m1
      have e' : cl3 P s t 3 = if cst P s (nI k) (P_m P) < cst P t (nI k) (P_m P) then -1 else if cst P s (nI k) (P_m P) = cst P t (nI k) (P_m P) then cl3 P s t k else nI 1 := e
      by_cases h1 : cst P s (nI k) (P_m P) < cst P t (nI k) (P_m P)
      · rw [if_pos h1] at e' ⊢
        rw [brF (by decide)]
        rw [e'] at hq
        exact hq
      · rw [if_neg h1] at e' ⊢
        by_cases h2 : cst P s (nI k) (P_m P) = cst P t (nI k) (P_m P)
        · rw [if_pos h2] at e' ⊢
          rw [brT rfl]
          exact ih (by omega) e' _
        · rw [if_neg h2] at e' ⊢
          rw [brF (by decide)]
          rw [e'] at hq
          exact hq
  refine TC_e (ls := [.ref 0, .int (nI s), .int (nI t), unk, unk]) (Nat.le_of_ble_eq_true rfl) rfl (wx_sound (S := [2]) 60 true _ _ _ _ ?_)
  simp +contextual (disch := omega) only [K54, wx_t, wx_g, wJ_t, wJ_f, wI_s, CI, CL, C01, aftC_v, aftC_n, true_or, or_true, true_and, and_true, inS_n, inS_c, pI_c, pL_c, pA_c, pV_c, pE_c, pQ_s, pQ_n, pQ_r, cm_eq', cm_ne', cm_lt', cm_ge', cm_gt', cm_le', List.getD_cons_zero, List.getD_cons_succ, Nat.reduceAdd, Nat.reduceBEq, Bool.false_or, Bool.or_false, Bool.true_or, Int.reduceToNat, s_iload, s_lload, s_aload, s_istore, s_astore, s_lstore, s_iconst, s_sipush, s_aconst_null, s_iadd, s_isub, s_imul, s_iand, s_ior, s_ixor, s_idiv, s_irem, s_ishl, s_ishr, s_iushr, s_ladd, s_lsub, s_land, s_lor, s_lxor, s_lneg, s_lshl, s_lshr, s_lushr, s_i2l, s_l2i, s_lcmp, s_dup, s_pop, s_dup2, s_i2c, s_i2s, s_monitorenter, s_ifCond, s_if_icmp, s_ifnull, s_goto, s_iinc, s_tableswitch, s_ireturn, s_freturn, s_lreturn, s_areturn, s_return_, s_ldc, s_getfield, s_putfield, s_iaload, s_iastore, s_laload, s_lastore, s_baload, s_bastore, s_aaload, s_aastore, s_arraylength, s_newarray, s_anewarray, s_new, s_invokestatic, s_invokespecial, s_invokevirtual, fvl_0, fvl_1, fvl_2, fvl_3, fp_0, fp_1, fp_2, fp_3, rf_s, rf_n, isRf_b, knw_b, isLg_b, popA_0, popA_s, st1_0, st1_s, st2_e, set_0, set_s, aftC_e, hxP_s, hxP_n, iteF, iteT, bft, im_t, im_f, nt_f, nt_t, Nat.reduceDiv, Nat.reduceMod, Nat.reduceLeDiff, Nat.reduceLT, Nat.reduceEqDiff, List.length_cons, List.length_nil, Nat.zero_add, Nat.reduceSub, List.cons_append, List.nil_append, ak_i, az_i, ar_i, al_i, ai_i, ak_l, az_l, ar_l, al_l, ai_l, ak_r, az_r, ar_r, al_r, ai_r, pk_m1, reduceCtorEq, msk_tb, mskL, Bool.and_eq_true, decide_eq_true_eq, lg_0, lg_t, lg_g, lg_e, lg_l, tb_z, Nat.mod_eq_of_lt, lN_1s, and_ze, brT, brF, brN, vpT, a4095, a63, nI_e, nI_l', nI_t', dif_z, and_z, and_zr, lN_e, nI_clamp, nx_shr, Nat.reducePow, bI_0, bI_1, bI_z, bI_o, bI_or, n01, nI_add, pk_mul, nx_and, nx_or, nx_dif, lx_and, lx_or, lx_dif, Bool.not_eq_true, Bool.not_eq_false, Bool.true_eq_false, Bool.false_eq_true, ss_0 c.1]
  exact lp 3 (by omega) rfl _) Q
end CLS
