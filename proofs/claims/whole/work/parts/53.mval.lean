/-! THE REFERENCE: NUMBERS, AN ANSWER -/
def S66 : Nat → Nat → Prop := fun a _ => a = 66
theorem sm_66 : ∀ a k, S66 a k → SM a k := fun a k e => Or.inr (Or.inr (Or.inl e))
def vL (h : AH) (v : Nat → Int) : Prop := ∀ x, x < 4 → ah_l h 66 x = Int64.ofInt (v x)
def HW (P : PG) (w : Int32) (s : Nat) : Nat := msk (P_m P) fun i => decide (P_kd P i = 3) && (holds P i s && !wW w i)
theorem HW_k {P : PG} {w : Int32} {s : Nat} : ∀ i, (HW P w s).testBit i = true → i < P_m P → P_kd P i = 3 := by
  intro i h hi
  rw [HW, msk_tb] at h
  simp at h
  exact h.2.1
theorem oL_lt {a b : Int} (h1 : -1000000 ≤ a) (h2 : a < 1000000) (h3 : -1000000 ≤ b) (h4 : b < 1000000) : (Int64.ofInt a ≤ Int64.ofInt b) = (a ≤ b) := propext (by
  rw [Int64.le_iff_toInt_le, Int64.toInt_ofInt_of_le (by omega) (by omega), Int64.toInt_ofInt_of_le (by omega) (by omega)])
theorem oL_add (a b : Int) : Int64.ofInt a + Int64.ofInt b = Int64.ofInt (a + b) := (Int64.ofInt_add a b).symm
theorem gvL {P : PG} {i : Nat} : (P_gv P i 2).toInt64 = Int64.ofInt (dz P i) := by
  rw [← Int64.toInt_inj, Int32.toInt_toInt64]
  have h1 := Int32.le_toInt (P_gv P i 2)
  have h2 := Int32.toInt_lt (P_gv P i 2)
  rw [show dz P i = (P_gv P i 2).toInt from rfl, Int64.toInt_ofInt_of_le (by omega) (by omega)]
section MDL
variable {sc : (Nat → Int32) × Nat} {d : Nat} {h : AH} {Q : Rs → AH → Prop} {P : PG} {A T F : Nat}
theorem m_123 (c : MP h P) {s : Nat} (hs : s < 2 ^ P_n P) : TC sc (d + 2) 123 [.ref 49, .int (nI s)] h fun q h' => q = .inl (some (.int (bI (chd P (HW P (ah_i h 49 28) s))))) ∧ FR h h' S66 ∧ vL h' (vals P (HW P (ah_i h 49 28) s)) := by
  have hm := c.m
  generalize hw : ah_i h 49 28 = w
  generalize hQ : (fun (q : Rs) (h' : AH) => q = .inl (some (.int (bI (chd P (HW P w s))))) ∧ FR h h' S66 ∧ vL h' (vals P (HW P w s))) = Q
  have lin : ∀ j, j ≤ 4 → (rds P (HW P w s) j).2 = true → (∀ h', FR h h' S66 → vL h' (rds P (HW P w s) (j + 1)).1 → ∀ x y : Value, TT sc (d + 1) 123 Q 16 [.ref 49, .int (nI s), .int (bI (rds P (HW P w s) (j + 1)).2), .int (nI (j + 1)), x, y, unk] [] h') →
      ∀ k, k ≤ P_m P → ∀ h', FR h h' S66 → vL h' (rdv P (HW P w s) (rds P (HW P w s) j).1 k) → ∀ y : Value, TT sc (d + 1) 123 Q 25 [.ref 49, .int (nI s), .int (bI (rdb P (HW P w s) (rds P (HW P w s) j).1 k)), .int (nI j), .int (nI k), y, unk] [] h' := by
    intro j hj hs0 K
    refine up_to fun k hk ih h' f hv y => ?_
    have c' := c.fr (f.mono sm_66)
    have w' : ah_i h' 49 28 = w := by rw [f.ki fun _ z => absurd (show 49 = 66 from z) (by decide)]; exact hw
    by_cases e : k = P_m P
    · subst e
      refine wx_sound (S := [16, 25]) 60 true _ _ _ _ ?_
      simp +contextual (disch := omega) only [K123, wx_t, wx_g, wJ_t, wJ_f, wI_s, CI, CL, C01, aftC_v, aftC_n, true_or, or_true, true_and, and_true, inS_n, inS_c, pI_c, pL_c, pA_c, pV_c, pE_c, pQ_s, pQ_n, pQ_r, cm_eq', cm_ne', cm_lt', cm_ge', cm_gt', cm_le', List.getD_cons_zero, List.getD_cons_succ, Nat.reduceAdd, Nat.reduceBEq, Bool.false_or, Bool.or_false, Bool.true_or, Int.reduceToNat, s_iload, s_lload, s_aload, s_istore, s_astore, s_lstore, s_iconst, s_sipush, s_aconst_null, s_iadd, s_isub, s_imul, s_iand, s_ior, s_ixor, s_idiv, s_irem, s_ishl, s_ishr, s_iushr, s_ladd, s_lsub, s_land, s_lor, s_lxor, s_lneg, s_lshl, s_lshr, s_lushr, s_i2l, s_l2i, s_lcmp, s_dup, s_pop, s_dup2, s_i2c, s_i2s, s_monitorenter, s_ifCond, s_if_icmp, s_ifnull, s_goto, s_iinc, s_tableswitch, s_ireturn, s_freturn, s_lreturn, s_areturn, s_return_, s_ldc, s_getfield, s_putfield, s_iaload, s_iastore, s_laload, s_lastore, s_baload, s_bastore, s_aaload, s_aastore, s_arraylength, s_newarray, s_anewarray, s_new, s_invokestatic, s_invokespecial, s_invokevirtual, fvl_0, fvl_1, fvl_2, fvl_3, fp_0, fp_1, fp_2, fp_3, rf_s, rf_n, isRf_b, knw_b, isLg_b, popA_0, popA_s, st1_0, st1_s, st2_e, set_0, set_s, aftC_e, hxP_s, hxP_n, iteF, iteT, bft, im_t, im_f, nt_f, nt_t, Nat.reduceDiv, Nat.reduceMod, Nat.reduceLeDiff, Nat.reduceLT, Nat.reduceEqDiff, List.length_cons, List.length_nil, Nat.zero_add, Nat.reduceSub, List.cons_append, List.nil_append, ak_i, az_i, ar_i, al_i, ai_i, ak_l, az_l, ar_l, al_l, ai_l, ak_r, az_r, ar_r, al_r, ai_r, pk_m1, reduceCtorEq, msk_tb, mskL, Bool.and_eq_true, decide_eq_true_eq, lg_0, lg_t, lg_g, lg_e, lg_l, tb_z, Nat.mod_eq_of_lt, lN_1s, and_ze, brT, brF, brN, vpT, a4095, a63, nI_e, nI_l', nI_t', dif_z, and_z, and_zr, lN_e, nI_clamp, nx_shr, Nat.reducePow, bI_0, bI_1, bI_z, bI_o, bI_or, n01, nI_add, pk_mul, nx_and, nx_or, nx_dif, lx_and, lx_or, lx_dif, Bool.not_eq_true, Bool.not_eq_false, Bool.true_eq_false, Bool.false_eq_true, ss_49 c'.1, c'.f.2]
      have e1 : rds P (HW P w s) (j + 1) = (rdv P (HW P w s) (rds P (HW P w s) j).1 (P_m P), rdb P (HW P w s) (rds P (HW P w s) j).1 (P_m P)) := by rw [rds, if_pos hs0]
      have := K h' f (by rw [e1]; exact hv) (.int (nI (P_m P))) y
      rw [e1] at this
      exact this
    · have hk2 : k < P_m P := by omega
      have ih := ih hk2
      simp only [rdv, rdb] at ih
      have tbk : (HW P w s).testBit k = (decide (P_kd P k = 3) && (holds P k s && !wW w k)) := by rw [HW, msk_tb]; simp [hk2]
      have skip : (HW P w s).testBit k = false → ∀ y, TT sc (d + 1) 123 Q 25 [.ref 49, .int (nI s), .int (bI (rdb P (HW P w s) (rds P (HW P w s) j).1 k)), .int (nI j), .int (nI (k + 1)), y, unk] [] h' := fun e1 y => by
        simp only [e1, Bool.false_eq_true, if_false] at ih
        exact ih h' f hv _
      have kn := c.kd hk2
      by_cases k3 : P_kd P k = 3
      · have o := dOK_of c.2.2 hk2 k3
        have bn := rdv_bnd c.2.2 (H := HW P w s) HW_k (rds_bnd c.2.2 (H := HW P w s) HW_k j) k hk
        generalize rdv P (HW P w s) (rds P (HW P w s) j).1 k = v at *
        obtain ⟨a, b, z, oa, ob, oz, o1, o2, o3, o4, o5, o6⟩ := o
        have va := hv a (by omega)
        have vb := hv b (by omega)
        have ba := bn a (by omega)
        have bb := bn b (by omega)
        have le : (Int64.ofInt (v a) ≤ Int64.ofInt (v b + dz P k)) = (v a ≤ v b + dz P k) := oL_lt (by omega) (by omega) (by omega) (by omega)
        refine wx_sound (S := [16, 25]) 80 true _ _ _ _ ?_
        simp +contextual (disch := omega) only [K123, wx_t, wx_g, wJ_t, wJ_f, wI_s, CI, CL, C01, aftC_v, aftC_n, true_or, or_true, true_and, and_true, inS_n, inS_c, pI_c, pL_c, pA_c, pV_c, pE_c, pQ_s, pQ_n, pQ_r, cm_eq', cm_ne', cm_lt', cm_ge', cm_gt', cm_le', List.getD_cons_zero, List.getD_cons_succ, Nat.reduceAdd, Nat.reduceBEq, Bool.false_or, Bool.or_false, Bool.true_or, Int.reduceToNat, s_iload, s_lload, s_aload, s_istore, s_astore, s_lstore, s_iconst, s_sipush, s_aconst_null, s_iadd, s_isub, s_imul, s_iand, s_ior, s_ixor, s_idiv, s_irem, s_ishl, s_ishr, s_iushr, s_ladd, s_lsub, s_land, s_lor, s_lxor, s_lneg, s_lshl, s_lshr, s_lushr, s_i2l, s_l2i, s_lcmp, s_dup, s_pop, s_dup2, s_i2c, s_i2s, s_monitorenter, s_ifCond, s_if_icmp, s_ifnull, s_goto, s_iinc, s_tableswitch, s_ireturn, s_freturn, s_lreturn, s_areturn, s_return_, s_ldc, s_getfield, s_putfield, s_iaload, s_iastore, s_laload, s_lastore, s_baload, s_bastore, s_aaload, s_aastore, s_arraylength, s_newarray, s_anewarray, s_new, s_invokestatic, s_invokespecial, s_invokevirtual, fvl_0, fvl_1, fvl_2, fvl_3, fp_0, fp_1, fp_2, fp_3, rf_s, rf_n, isRf_b, knw_b, isLg_b, popA_0, popA_s, st1_0, st1_s, st2_e, set_0, set_s, aftC_e, hxP_s, hxP_n, iteF, iteT, bft, im_t, im_f, nt_f, nt_t, Nat.reduceDiv, Nat.reduceMod, Nat.reduceLeDiff, Nat.reduceLT, Nat.reduceEqDiff, List.length_cons, List.length_nil, Nat.zero_add, Nat.reduceSub, List.cons_append, List.nil_append, ak_i, az_i, ar_i, al_i, ai_i, ak_l, az_l, ar_l, al_l, ai_l, ak_r, az_r, ar_r, al_r, ai_r, pk_m1, reduceCtorEq, msk_tb, mskL, Bool.and_eq_true, decide_eq_true_eq, lg_0, lg_t, lg_g, lg_e, lg_l, tb_z, Nat.mod_eq_of_lt, lN_1s, and_ze, brT, brF, brN, vpT, a4095, a63, nI_e, nI_l', nI_t', dif_z, and_z, and_zr, lN_e, nI_clamp, nx_shr, Nat.reducePow, bI_0, bI_1, bI_z, bI_o, bI_or, n01, nI_add, pk_mul, nx_and, nx_or, nx_dif, lx_and, lx_or, lx_dif, Bool.not_eq_true, Bool.not_eq_false, Bool.true_eq_false, Bool.false_eq_true, ss_49 c'.1, c'.f.2, w', m_114 c' hk2, m_116 c' hk2 hs, k3, m_115 c' hk2 (j := 0) (by decide) (by omega), m_115 c' hk2 (j := 1) (by decide) (by omega), m_115 c' hk2 (j := 2) (by decide) (by omega), o1, o2, gvL, va, vb, oL_add, le]
        refine And.intro (fun e1 => skip (by rw [tbk]; unfold wW; simp [e1]) _) fun e1 => And.intro (fun e2 => skip (by rw [tbk]; simp [e2]) _) fun e2 => ?_
        have tk : (HW P w s).testBit k = true := by rw [tbk]; unfold wW; simp [e1, e2, k3]
        simp only [tk, if_true] at ih
        refine And.intro (fun e3 => ?_) fun e3 => ?_
        · have lb : lwb P k v = false := by unfold lwb; rw [o4, o5]; exact decide_eq_false (by omega)
          have lv : lw P k v = v := by
            unfold lw; rw [o4, o5]
            funext q
            rw [if_neg (fun z => absurd z.2 (by omega))]
          rw [lb, Bool.or_false, lv] at ih
          exact ih h' f hv _
        · have lb : lwb P k v = true := by unfold lwb; rw [o4, o5]; exact decide_eq_true (by omega)
          rw [lb, Bool.or_true] at ih
          refine ih _ (f.l rfl) (fun q hq => ?_) _
          rw [al_l]
          unfold lw; rw [o4, o5]
          by_cases z : q = a
          · rw [if_pos ⟨rfl, z⟩, if_pos ⟨z, by omega⟩]
          · rw [if_neg (fun y => z y.2), if_neg (fun y => z y.1)]; exact hv q hq
      · refine wx_sound (S := [16, 25]) 60 true _ _ _ _ ?_
        simp +contextual (disch := omega) only [K123, wx_t, wx_g, wJ_t, wJ_f, wI_s, CI, CL, C01, aftC_v, aftC_n, true_or, or_true, true_and, and_true, inS_n, inS_c, pI_c, pL_c, pA_c, pV_c, pE_c, pQ_s, pQ_n, pQ_r, cm_eq', cm_ne', cm_lt', cm_ge', cm_gt', cm_le', List.getD_cons_zero, List.getD_cons_succ, Nat.reduceAdd, Nat.reduceBEq, Bool.false_or, Bool.or_false, Bool.true_or, Int.reduceToNat, s_iload, s_lload, s_aload, s_istore, s_astore, s_lstore, s_iconst, s_sipush, s_aconst_null, s_iadd, s_isub, s_imul, s_iand, s_ior, s_ixor, s_idiv, s_irem, s_ishl, s_ishr, s_iushr, s_ladd, s_lsub, s_land, s_lor, s_lxor, s_lneg, s_lshl, s_lshr, s_lushr, s_i2l, s_l2i, s_lcmp, s_dup, s_pop, s_dup2, s_i2c, s_i2s, s_monitorenter, s_ifCond, s_if_icmp, s_ifnull, s_goto, s_iinc, s_tableswitch, s_ireturn, s_freturn, s_lreturn, s_areturn, s_return_, s_ldc, s_getfield, s_putfield, s_iaload, s_iastore, s_laload, s_lastore, s_baload, s_bastore, s_aaload, s_aastore, s_arraylength, s_newarray, s_anewarray, s_new, s_invokestatic, s_invokespecial, s_invokevirtual, fvl_0, fvl_1, fvl_2, fvl_3, fp_0, fp_1, fp_2, fp_3, rf_s, rf_n, isRf_b, knw_b, isLg_b, popA_0, popA_s, st1_0, st1_s, st2_e, set_0, set_s, aftC_e, hxP_s, hxP_n, iteF, iteT, bft, im_t, im_f, nt_f, nt_t, Nat.reduceDiv, Nat.reduceMod, Nat.reduceLeDiff, Nat.reduceLT, Nat.reduceEqDiff, List.length_cons, List.length_nil, Nat.zero_add, Nat.reduceSub, List.cons_append, List.nil_append, ak_i, az_i, ar_i, al_i, ai_i, ak_l, az_l, ar_l, al_l, ai_l, ak_r, az_r, ar_r, al_r, ai_r, pk_m1, reduceCtorEq, msk_tb, mskL, Bool.and_eq_true, decide_eq_true_eq, lg_0, lg_t, lg_g, lg_e, lg_l, tb_z, Nat.mod_eq_of_lt, lN_1s, and_ze, brT, brF, brN, vpT, a4095, a63, nI_e, nI_l', nI_t', dif_z, and_z, and_zr, lN_e, nI_clamp, nx_shr, Nat.reducePow, bI_0, bI_1, bI_z, bI_o, bI_or, n01, nI_add, pk_mul, nx_and, nx_or, nx_dif, lx_and, lx_or, lx_dif, Bool.not_eq_true, Bool.not_eq_false, Bool.true_eq_false, Bool.false_eq_true, ss_49 c'.1, c'.f.2, w', m_114 c' hk2, k3]
        exact And.intro (fun e1 => skip (by rw [tbk]; simp [k3]) _) fun e1 => skip (by rw [tbk]; simp [k3]) _
  have lo : ∀ j, j ≤ 5 → ∀ h', FR h h' S66 → vL h' (rds P (HW P w s) j).1 → ∀ x y : Value, TT sc (d + 1) 123 Q 16 [.ref 49, .int (nI s), .int (bI (rds P (HW P w s) j).2), .int (nI j), x, y, unk] [] h' := by
    refine up_to fun j hj ih h' f hv x y => ?_
    have c' := c.fr (f.mono sm_66)
    refine wx_sound (S := [16, 25]) 60 true _ _ _ _ ?_
    simp +contextual (disch := omega) only [K123, wx_t, wx_g, wJ_t, wJ_f, wI_s, CI, CL, C01, aftC_v, aftC_n, true_or, or_true, true_and, and_true, inS_n, inS_c, pI_c, pL_c, pA_c, pV_c, pE_c, pQ_s, pQ_n, pQ_r, cm_eq', cm_ne', cm_lt', cm_ge', cm_gt', cm_le', List.getD_cons_zero, List.getD_cons_succ, Nat.reduceAdd, Nat.reduceBEq, Bool.false_or, Bool.or_false, Bool.true_or, Int.reduceToNat, s_iload, s_lload, s_aload, s_istore, s_astore, s_lstore, s_iconst, s_sipush, s_aconst_null, s_iadd, s_isub, s_imul, s_iand, s_ior, s_ixor, s_idiv, s_irem, s_ishl, s_ishr, s_iushr, s_ladd, s_lsub, s_land, s_lor, s_lxor, s_lneg, s_lshl, s_lshr, s_lushr, s_i2l, s_l2i, s_lcmp, s_dup, s_pop, s_dup2, s_i2c, s_i2s, s_monitorenter, s_ifCond, s_if_icmp, s_ifnull, s_goto, s_iinc, s_tableswitch, s_ireturn, s_freturn, s_lreturn, s_areturn, s_return_, s_ldc, s_getfield, s_putfield, s_iaload, s_iastore, s_laload, s_lastore, s_baload, s_bastore, s_aaload, s_aastore, s_arraylength, s_newarray, s_anewarray, s_new, s_invokestatic, s_invokespecial, s_invokevirtual, fvl_0, fvl_1, fvl_2, fvl_3, fp_0, fp_1, fp_2, fp_3, rf_s, rf_n, isRf_b, knw_b, isLg_b, popA_0, popA_s, st1_0, st1_s, st2_e, set_0, set_s, aftC_e, hxP_s, hxP_n, iteF, iteT, bft, im_t, im_f, nt_f, nt_t, Nat.reduceDiv, Nat.reduceMod, Nat.reduceLeDiff, Nat.reduceLT, Nat.reduceEqDiff, List.length_cons, List.length_nil, Nat.zero_add, Nat.reduceSub, List.cons_append, List.nil_append, ak_i, az_i, ar_i, al_i, ai_i, ak_l, az_l, ar_l, al_l, ai_l, ak_r, az_r, ar_r, al_r, ai_r, pk_m1, reduceCtorEq, msk_tb, mskL, Bool.and_eq_true, decide_eq_true_eq, lg_0, lg_t, lg_g, lg_e, lg_l, tb_z, Nat.mod_eq_of_lt, lN_1s, and_ze, brT, brF, brN, vpT, a4095, a63, nI_e, nI_l', nI_t', dif_z, and_z, and_zr, lN_e, nI_clamp, nx_shr, Nat.reducePow, bI_0, bI_1, bI_z, bI_o, bI_or, n01, nI_add, pk_mul, nx_and, nx_or, nx_dif, lx_and, lx_or, lx_dif, Bool.not_eq_true, Bool.not_eq_false, Bool.true_eq_false, Bool.false_eq_true, ss_49 c'.1]
    have fin : (rds P (HW P w s) j) = rds P (HW P w s) 5 → ∀ b : Bool, (rds P (HW P w s) j).2 = b → Q (.inl (some (.int (bI (!b))))) h' := fun e b hb => by
      rw [← hQ]
      refine ⟨?_, f, ?_⟩
      · rw [chd, ← e, hb]
      · rw [vals, ← e]; exact hv
    have stt : (rds P (HW P w s) j).2 = false → (rds P (HW P w s) j) = rds P (HW P w s) 5 := fun e => (rds_st e j hj).symm
    refine And.intro (fun e => ?_) fun e => And.intro (fun e1 => fin (stt e1) _ e1) fun e1 => ?_
    · have : j = 5 := by omega
      subst this
      exact And.intro (fun e1 => fin rfl _ e1) fun e1 => fin rfl _ e1
    · exact lin j (by omega) e1 (fun h'' f2 v2 x y => ih (by omega) h'' f2 v2 x y) 0 (by omega) h' f hv y
  have cl : ∀ k, k ≤ 4 → ∀ h', FR h h' S66 → (∀ x, x < k → ah_l h' 66 x = lN 0) → TT sc (d + 1) 123 Q 2 [.ref 49, .int (nI s), .int (nI k), unk, unk, unk, unk] [] h' := by
    refine up_to fun k hk ih h' f4 v4 => ?_
    have c' := c.fr (f4.mono sm_66)
    by_cases hk4 : k = 4
    · subst hk4
      have v4 : vL h' fun _ => 0 := v4
      refine wx_sound (S := [2, 16, 25]) 60 true _ _ _ _ ?_
      simp +contextual (disch := omega) only [K123, wx_t, wx_g, wJ_t, wJ_f, wI_s, CI, CL, C01, aftC_v, aftC_n, true_or, or_true, true_and, and_true, inS_n, inS_c, pI_c, pL_c, pA_c, pV_c, pE_c, pQ_s, pQ_n, pQ_r, cm_eq', cm_ne', cm_lt', cm_ge', cm_gt', cm_le', List.getD_cons_zero, List.getD_cons_succ, Nat.reduceAdd, Nat.reduceBEq, Bool.false_or, Bool.or_false, Bool.true_or, Int.reduceToNat, s_iload, s_lload, s_aload, s_istore, s_astore, s_lstore, s_iconst, s_sipush, s_aconst_null, s_iadd, s_isub, s_imul, s_iand, s_ior, s_ixor, s_idiv, s_irem, s_ishl, s_ishr, s_iushr, s_ladd, s_lsub, s_land, s_lor, s_lxor, s_lneg, s_lshl, s_lshr, s_lushr, s_i2l, s_l2i, s_lcmp, s_dup, s_pop, s_dup2, s_i2c, s_i2s, s_monitorenter, s_ifCond, s_if_icmp, s_ifnull, s_goto, s_iinc, s_tableswitch, s_ireturn, s_freturn, s_lreturn, s_areturn, s_return_, s_ldc, s_getfield, s_putfield, s_iaload, s_iastore, s_laload, s_lastore, s_baload, s_bastore, s_aaload, s_aastore, s_arraylength, s_newarray, s_anewarray, s_new, s_invokestatic, s_invokespecial, s_invokevirtual, fvl_0, fvl_1, fvl_2, fvl_3, fp_0, fp_1, fp_2, fp_3, rf_s, rf_n, isRf_b, knw_b, isLg_b, popA_0, popA_s, st1_0, st1_s, st2_e, set_0, set_s, aftC_e, hxP_s, hxP_n, iteF, iteT, bft, im_t, im_f, nt_f, nt_t, Nat.reduceDiv, Nat.reduceMod, Nat.reduceLeDiff, Nat.reduceLT, Nat.reduceEqDiff, List.length_cons, List.length_nil, Nat.zero_add, Nat.reduceSub, List.cons_append, List.nil_append, ak_i, az_i, ar_i, al_i, ai_i, ak_l, az_l, ar_l, al_l, ai_l, ak_r, az_r, ar_r, al_r, ai_r, pk_m1, reduceCtorEq, msk_tb, mskL, Bool.and_eq_true, decide_eq_true_eq, lg_0, lg_t, lg_g, lg_e, lg_l, tb_z, Nat.mod_eq_of_lt, lN_1s, and_ze, brT, brF, brN, vpT, a4095, a63, nI_e, nI_l', nI_t', dif_z, and_z, and_zr, lN_e, nI_clamp, nx_shr, Nat.reducePow, bI_0, bI_1, bI_z, bI_o, bI_or, n01, nI_add, pk_mul, nx_and, nx_or, nx_dif, lx_and, lx_or, lx_dif, Bool.not_eq_true, Bool.not_eq_false, Bool.true_eq_false, Bool.false_eq_true, ss_49 c'.1]
      exact lo 0 (by omega) _ f4 v4 _ _
    · refine wx_sound (S := [2, 16, 25]) 60 true _ _ _ _ ?_
      simp +contextual (disch := omega) only [K123, wx_t, wx_g, wJ_t, wJ_f, wI_s, CI, CL, C01, aftC_v, aftC_n, true_or, or_true, true_and, and_true, inS_n, inS_c, pI_c, pL_c, pA_c, pV_c, pE_c, pQ_s, pQ_n, pQ_r, cm_eq', cm_ne', cm_lt', cm_ge', cm_gt', cm_le', List.getD_cons_zero, List.getD_cons_succ, Nat.reduceAdd, Nat.reduceBEq, Bool.false_or, Bool.or_false, Bool.true_or, Int.reduceToNat, s_iload, s_lload, s_aload, s_istore, s_astore, s_lstore, s_iconst, s_sipush, s_aconst_null, s_iadd, s_isub, s_imul, s_iand, s_ior, s_ixor, s_idiv, s_irem, s_ishl, s_ishr, s_iushr, s_ladd, s_lsub, s_land, s_lor, s_lxor, s_lneg, s_lshl, s_lshr, s_lushr, s_i2l, s_l2i, s_lcmp, s_dup, s_pop, s_dup2, s_i2c, s_i2s, s_monitorenter, s_ifCond, s_if_icmp, s_ifnull, s_goto, s_iinc, s_tableswitch, s_ireturn, s_freturn, s_lreturn, s_areturn, s_return_, s_ldc, s_getfield, s_putfield, s_iaload, s_iastore, s_laload, s_lastore, s_baload, s_bastore, s_aaload, s_aastore, s_arraylength, s_newarray, s_anewarray, s_new, s_invokestatic, s_invokespecial, s_invokevirtual, fvl_0, fvl_1, fvl_2, fvl_3, fp_0, fp_1, fp_2, fp_3, rf_s, rf_n, isRf_b, knw_b, isLg_b, popA_0, popA_s, st1_0, st1_s, st2_e, set_0, set_s, aftC_e, hxP_s, hxP_n, iteF, iteT, bft, im_t, im_f, nt_f, nt_t, Nat.reduceDiv, Nat.reduceMod, Nat.reduceLeDiff, Nat.reduceLT, Nat.reduceEqDiff, List.length_cons, List.length_nil, Nat.zero_add, Nat.reduceSub, List.cons_append, List.nil_append, ak_i, az_i, ar_i, al_i, ai_i, ak_l, az_l, ar_l, al_l, ai_l, ak_r, az_r, ar_r, al_r, ai_r, pk_m1, reduceCtorEq, msk_tb, mskL, Bool.and_eq_true, decide_eq_true_eq, lg_0, lg_t, lg_g, lg_e, lg_l, tb_z, Nat.mod_eq_of_lt, lN_1s, and_ze, brT, brF, brN, vpT, a4095, a63, nI_e, nI_l', nI_t', dif_z, and_z, and_zr, lN_e, nI_clamp, nx_shr, Nat.reducePow, bI_0, bI_1, bI_z, bI_o, bI_or, n01, nI_add, pk_mul, nx_and, nx_or, nx_dif, lx_and, lx_or, lx_dif, Bool.not_eq_true, Bool.not_eq_false, Bool.true_eq_false, Bool.false_eq_true, ss_49 c'.1]
      refine ih (by omega) _ (f4.l rfl) (fun x hx => ?_)
      rw [al_l]
      by_cases q : x = k
      · rw [if_pos ⟨rfl, q⟩]
      · rw [if_neg (fun z => q z.2)]; exact v4 x (by omega)
  refine TC_e (ls := [.ref 49, .int (nI s), unk, unk, unk, unk, unk]) (Nat.le_of_ble_eq_true rfl) rfl (wx_sound (S := [2, 16, 25]) 20 true _ _ _ _ ?_)
  simp +contextual (disch := omega) only [K123, wx_t, wx_g, wJ_t, wJ_f, wI_s, CI, CL, C01, aftC_v, aftC_n, true_or, or_true, true_and, and_true, inS_n, inS_c, pI_c, pL_c, pA_c, pV_c, pE_c, pQ_s, pQ_n, pQ_r, cm_eq', cm_ne', cm_lt', cm_ge', cm_gt', cm_le', List.getD_cons_zero, List.getD_cons_succ, Nat.reduceAdd, Nat.reduceBEq, Bool.false_or, Bool.or_false, Bool.true_or, Int.reduceToNat, s_iload, s_lload, s_aload, s_istore, s_astore, s_lstore, s_iconst, s_sipush, s_aconst_null, s_iadd, s_isub, s_imul, s_iand, s_ior, s_ixor, s_idiv, s_irem, s_ishl, s_ishr, s_iushr, s_ladd, s_lsub, s_land, s_lor, s_lxor, s_lneg, s_lshl, s_lshr, s_lushr, s_i2l, s_l2i, s_lcmp, s_dup, s_pop, s_dup2, s_i2c, s_i2s, s_monitorenter, s_ifCond, s_if_icmp, s_ifnull, s_goto, s_iinc, s_tableswitch, s_ireturn, s_freturn, s_lreturn, s_areturn, s_return_, s_ldc, s_getfield, s_putfield, s_iaload, s_iastore, s_laload, s_lastore, s_baload, s_bastore, s_aaload, s_aastore, s_arraylength, s_newarray, s_anewarray, s_new, s_invokestatic, s_invokespecial, s_invokevirtual, fvl_0, fvl_1, fvl_2, fvl_3, fp_0, fp_1, fp_2, fp_3, rf_s, rf_n, isRf_b, knw_b, isLg_b, popA_0, popA_s, st1_0, st1_s, st2_e, set_0, set_s, aftC_e, hxP_s, hxP_n, iteF, iteT, bft, im_t, im_f, nt_f, nt_t, Nat.reduceDiv, Nat.reduceMod, Nat.reduceLeDiff, Nat.reduceLT, Nat.reduceEqDiff, List.length_cons, List.length_nil, Nat.zero_add, Nat.reduceSub, List.cons_append, List.nil_append, ak_i, az_i, ar_i, al_i, ai_i, ak_l, az_l, ar_l, al_l, ai_l, ak_r, az_r, ar_r, al_r, ai_r, pk_m1, reduceCtorEq, msk_tb, mskL, Bool.and_eq_true, decide_eq_true_eq, lg_0, lg_t, lg_g, lg_e, lg_l, tb_z, Nat.mod_eq_of_lt, lN_1s, and_ze, brT, brF, brN, vpT, a4095, a63, nI_e, nI_l', nI_t', dif_z, and_z, and_zr, lN_e, nI_clamp, nx_shr, Nat.reducePow, bI_0, bI_1, bI_z, bI_o, bI_or, n01, nI_add, pk_mul, nx_and, nx_or, nx_dif, lx_and, lx_or, lx_dif, Bool.not_eq_true, Bool.not_eq_false, Bool.true_eq_false, Bool.false_eq_true, ss_49 c.1]
  exact cl 0 (by omega) h (FR.refl h _) (fun x hx => absurd hx (by omega))
def ansW (P : PG) (T F : Nat) (w : Int32) (s : Nat) : Prop := (satW P T w s ∧ lstW P T F w s) ∧ chd P (HW P w s) = true
def SA : Nat → Nat → Prop := fun a k => S67 a k ∨ S66 a k
theorem sm_a : ∀ a k, SA a k → SM a k := fun a k e => e.elim (sm_67 a k) (sm_66 a k)
theorem m_124 (c : MP h P) (x : RMX h (P_n P) A T F) (hT : T < 2 ^ P_n P) (hF : F < 2 ^ P_n P) {s : Nat} (hs : s < 2 ^ P_n P) : TC sc (d + 4) 124 [.ref 49, .int (nI s)] h fun q h' => q = .inl (some (.int (bI (bP (ansW P T F (ah_i h 49 28) s))))) ∧ FR h h' SA := by
  have n12 := c.n
  have pn := c.pn
  generalize hw : ah_i h 49 28 = w
  generalize hQ : (fun (q : Rs) (h' : AH) => q = .inl (some (.int (bI (bP (ansW P T F w s))))) ∧ FR h h' SA) = Q
  refine TC_e (ls := [.ref 49, .int (nI s)]) (Nat.le_of_ble_eq_true rfl) rfl (wx_sound (S := []) 60 true _ _ _ _ ?_)
  simp +contextual (disch := omega) only [K124, wx_t, wx_g, wJ_t, wJ_f, wI_s, CI, CL, C01, aftC_v, aftC_n, true_or, or_true, true_and, and_true, inS_n, inS_c, pI_c, pL_c, pA_c, pV_c, pE_c, pQ_s, pQ_n, pQ_r, cm_eq', cm_ne', cm_lt', cm_ge', cm_gt', cm_le', List.getD_cons_zero, List.getD_cons_succ, Nat.reduceAdd, Nat.reduceBEq, Bool.false_or, Bool.or_false, Bool.true_or, Int.reduceToNat, s_iload, s_lload, s_aload, s_istore, s_astore, s_lstore, s_iconst, s_sipush, s_aconst_null, s_iadd, s_isub, s_imul, s_iand, s_ior, s_ixor, s_idiv, s_irem, s_ishl, s_ishr, s_iushr, s_ladd, s_lsub, s_land, s_lor, s_lxor, s_lneg, s_lshl, s_lshr, s_lushr, s_i2l, s_l2i, s_lcmp, s_dup, s_pop, s_dup2, s_i2c, s_i2s, s_monitorenter, s_ifCond, s_if_icmp, s_ifnull, s_goto, s_iinc, s_tableswitch, s_ireturn, s_freturn, s_lreturn, s_areturn, s_return_, s_ldc, s_getfield, s_putfield, s_iaload, s_iastore, s_laload, s_lastore, s_baload, s_bastore, s_aaload, s_aastore, s_arraylength, s_newarray, s_anewarray, s_new, s_invokestatic, s_invokespecial, s_invokevirtual, fvl_0, fvl_1, fvl_2, fvl_3, fp_0, fp_1, fp_2, fp_3, rf_s, rf_n, isRf_b, knw_b, isLg_b, popA_0, popA_s, st1_0, st1_s, st2_e, set_0, set_s, aftC_e, hxP_s, hxP_n, iteF, iteT, bft, im_t, im_f, nt_f, nt_t, Nat.reduceDiv, Nat.reduceMod, Nat.reduceLeDiff, Nat.reduceLT, Nat.reduceEqDiff, List.length_cons, List.length_nil, Nat.zero_add, Nat.reduceSub, List.cons_append, List.nil_append, ak_i, az_i, ar_i, al_i, ai_i, ak_l, az_l, ar_l, al_l, ai_l, ak_r, az_r, ar_r, al_r, ai_r, pk_m1, reduceCtorEq, msk_tb, mskL, Bool.and_eq_true, decide_eq_true_eq, lg_0, lg_t, lg_g, lg_e, lg_l, tb_z, Nat.mod_eq_of_lt, lN_1s, and_ze, brT, brF, brN, vpT, a4095, a63, nI_e, nI_l', nI_t', dif_z, and_z, and_zr, lN_e, nI_clamp, nx_shr, Nat.reducePow, bI_0, bI_1, bI_z, bI_o, bI_or, n01, nI_add, pk_mul, nx_and, nx_or, nx_dif, lx_and, lx_or, lx_dif, Bool.not_eq_true, Bool.not_eq_false, Bool.true_eq_false, Bool.false_eq_true, ss_49 c.1]
  refine TC_mono (m_122 c x hT hF hs) ?_
  rw [hw]
  rintro q h1 ⟨rfl, f1⟩
  have c1 := c.fr (f1.mono sm_67)
  have w1 : ah_i h1 49 28 = w := by rw [f1.ci (fun z => by rcases z with z | z <;> simp at z)]; exact hw
  simp +contextual (disch := omega) only [K124, wx_t, wx_g, wJ_t, wJ_f, wI_s, CI, CL, C01, aftC_v, aftC_n, true_or, or_true, true_and, and_true, inS_n, inS_c, pI_c, pL_c, pA_c, pV_c, pE_c, pQ_s, pQ_n, pQ_r, cm_eq', cm_ne', cm_lt', cm_ge', cm_gt', cm_le', List.getD_cons_zero, List.getD_cons_succ, Nat.reduceAdd, Nat.reduceBEq, Bool.false_or, Bool.or_false, Bool.true_or, Int.reduceToNat, s_iload, s_lload, s_aload, s_istore, s_astore, s_lstore, s_iconst, s_sipush, s_aconst_null, s_iadd, s_isub, s_imul, s_iand, s_ior, s_ixor, s_idiv, s_irem, s_ishl, s_ishr, s_iushr, s_ladd, s_lsub, s_land, s_lor, s_lxor, s_lneg, s_lshl, s_lshr, s_lushr, s_i2l, s_l2i, s_lcmp, s_dup, s_pop, s_dup2, s_i2c, s_i2s, s_monitorenter, s_ifCond, s_if_icmp, s_ifnull, s_goto, s_iinc, s_tableswitch, s_ireturn, s_freturn, s_lreturn, s_areturn, s_return_, s_ldc, s_getfield, s_putfield, s_iaload, s_iastore, s_laload, s_lastore, s_baload, s_bastore, s_aaload, s_aastore, s_arraylength, s_newarray, s_anewarray, s_new, s_invokestatic, s_invokespecial, s_invokevirtual, fvl_0, fvl_1, fvl_2, fvl_3, fp_0, fp_1, fp_2, fp_3, rf_s, rf_n, isRf_b, knw_b, isLg_b, popA_0, popA_s, st1_0, st1_s, st2_e, set_0, set_s, aftC_e, hxP_s, hxP_n, iteF, iteT, bft, im_t, im_f, nt_f, nt_t, Nat.reduceDiv, Nat.reduceMod, Nat.reduceLeDiff, Nat.reduceLT, Nat.reduceEqDiff, List.length_cons, List.length_nil, Nat.zero_add, Nat.reduceSub, List.cons_append, List.nil_append, ak_i, az_i, ar_i, al_i, ai_i, ak_l, az_l, ar_l, al_l, ai_l, ak_r, az_r, ar_r, al_r, ai_r, pk_m1, reduceCtorEq, msk_tb, mskL, Bool.and_eq_true, decide_eq_true_eq, lg_0, lg_t, lg_g, lg_e, lg_l, tb_z, Nat.mod_eq_of_lt, lN_1s, and_ze, brT, brF, brN, vpT, a4095, a63, nI_e, nI_l', nI_t', dif_z, and_z, and_zr, lN_e, nI_clamp, nx_shr, Nat.reducePow, bI_0, bI_1, bI_z, bI_o, bI_or, n01, nI_add, pk_mul, nx_and, nx_or, nx_dif, lx_and, lx_or, lx_dif, Bool.not_eq_true, Bool.not_eq_false, Bool.true_eq_false, Bool.false_eq_true, ss_49 c1.1, bP_t, bP_f]
  refine And.intro (fun e => ?_) fun e => ?_
  · refine TC_mono (m_123 c1 hs) ?_
    rw [w1]
    rintro q h2 ⟨rfl, f2, -⟩
    have f3 : FR h h2 SA := (f1.mono fun _ _ => Or.inl).trans f2 fun _ _ => Or.inr
    simp +contextual (disch := omega) only [K124, wx_t, wx_g, wJ_t, wJ_f, wI_s, CI, CL, C01, aftC_v, aftC_n, true_or, or_true, true_and, and_true, inS_n, inS_c, pI_c, pL_c, pA_c, pV_c, pE_c, pQ_s, pQ_n, pQ_r, cm_eq', cm_ne', cm_lt', cm_ge', cm_gt', cm_le', List.getD_cons_zero, List.getD_cons_succ, Nat.reduceAdd, Nat.reduceBEq, Bool.false_or, Bool.or_false, Bool.true_or, Int.reduceToNat, s_iload, s_lload, s_aload, s_istore, s_astore, s_lstore, s_iconst, s_sipush, s_aconst_null, s_iadd, s_isub, s_imul, s_iand, s_ior, s_ixor, s_idiv, s_irem, s_ishl, s_ishr, s_iushr, s_ladd, s_lsub, s_land, s_lor, s_lxor, s_lneg, s_lshl, s_lshr, s_lushr, s_i2l, s_l2i, s_lcmp, s_dup, s_pop, s_dup2, s_i2c, s_i2s, s_monitorenter, s_ifCond, s_if_icmp, s_ifnull, s_goto, s_iinc, s_tableswitch, s_ireturn, s_freturn, s_lreturn, s_areturn, s_return_, s_ldc, s_getfield, s_putfield, s_iaload, s_iastore, s_laload, s_lastore, s_baload, s_bastore, s_aaload, s_aastore, s_arraylength, s_newarray, s_anewarray, s_new, s_invokestatic, s_invokespecial, s_invokevirtual, fvl_0, fvl_1, fvl_2, fvl_3, fp_0, fp_1, fp_2, fp_3, rf_s, rf_n, isRf_b, knw_b, isLg_b, popA_0, popA_s, st1_0, st1_s, st2_e, set_0, set_s, aftC_e, hxP_s, hxP_n, iteF, iteT, bft, im_t, im_f, nt_f, nt_t, Nat.reduceDiv, Nat.reduceMod, Nat.reduceLeDiff, Nat.reduceLT, Nat.reduceEqDiff, List.length_cons, List.length_nil, Nat.zero_add, Nat.reduceSub, List.cons_append, List.nil_append, ak_i, az_i, ar_i, al_i, ai_i, ak_l, az_l, ar_l, al_l, ai_l, ak_r, az_r, ar_r, al_r, ai_r, pk_m1, reduceCtorEq, msk_tb, mskL, Bool.and_eq_true, decide_eq_true_eq, lg_0, lg_t, lg_g, lg_e, lg_l, tb_z, Nat.mod_eq_of_lt, lN_1s, and_ze, brT, brF, brN, vpT, a4095, a63, nI_e, nI_l', nI_t', dif_z, and_z, and_zr, lN_e, nI_clamp, nx_shr, Nat.reducePow, bI_0, bI_1, bI_z, bI_o, bI_or, n01, nI_add, pk_mul, nx_and, nx_or, nx_dif, lx_and, lx_or, lx_dif, Bool.not_eq_true, Bool.not_eq_false, Bool.true_eq_false, Bool.false_eq_true]
    refine And.intro (fun e2 => ?_) fun e2 => ?_
    · rw [← hQ]
      exact ⟨by rw [bP_no fun z => by rw [z.2] at e2; cases e2]; rfl, f3⟩
    · rw [← hQ]
      exact ⟨by rw [bP_of ⟨e, e2⟩]; rfl, f3⟩
  · rw [← hQ]
    exact ⟨by rw [bP_no fun z => e z.1]; rfl, f1.mono fun _ _ => Or.inl⟩
/-- without none -/
theorem ansW_m {s : Nat} (o : P_ok P) : ansW P T F (-1) s ↔ ans P T F s := by
  have nw : ∀ i, i < P_m P → wW (-1) i = false := fun i hi => decide_eq_false (n_m1 (by have := o.2.1; omega))
  have hw : HW P (-1) s = Hd P (hl P s) := by
    unfold HW Hd hl
    rw [msk_and]
    refine msk_c fun i hi => ?_
    rw [nw i hi]
    simp [Bool.and_comm]
  unfold ansW ans satW lstW lst
  rw [hw]
  constructor
  · rintro ⟨⟨⟨h1, h2⟩, h3⟩, h4⟩
    refine ⟨h1, (msk_z _ _).mpr fun i hi => h2 i hi (nw i hi), fun t t1 t2 ⟨t3, t4⟩ => ?_, h4⟩
    obtain ⟨i, i1, -, i2⟩ := h3 t t1 t2 t3
    rw [(msk_z _ _).mp t4 i i1] at i2; cases i2
  · rintro ⟨h1, h2, h3, h4⟩
    refine ⟨⟨⟨h1, fun i hi _ => (msk_z _ _).mp h2 i hi⟩, fun t t1 t2 t3 => ?_⟩, h4⟩
    apply Classical.byContradiction
    intro n
    refine h3 t t1 t2 ⟨t3, (msk_z _ _).mpr fun i hi => ?_⟩
    cases e : usa2 P t s i
    · rfl
    · exact (n ⟨i, hi, nw i hi, e⟩).elim
theorem ansW_i {s k : Nat} (o : P_ok P) (hk : k < P_m P) : ansW P T F (nI k) s ↔ spd P T F s k := by
  have m60 := o.2.1
  have wd : ∀ i, i < P_m P → wW (nI k) i = decide (i = k) := fun i hi => decide_eq_decide.mpr (by rw [nI_e (by omega) (by omega)])
  have hw : HW P (nI k) s = Hd P (dif (hl P s) (2 ^ k)) := by
    unfold HW Hd hl
    refine Nat.eq_of_testBit_eq fun i => ?_
    rw [Nat.testBit_and, dif_tb, msk_tb, msk_tb, msk_tb, tb_pow]
    by_cases hi : i < P_m P
    · rw [wd i hi]
      by_cases q : k = i
      · subst q; simp
      · have : ¬ i = k := fun z => q z.symm
        simp [hi, q, this, Bool.and_comm]
    · simp [hi]
  unfold ansW spd sp1 satW lstW oth
  rw [hw]
  constructor
  · rintro ⟨⟨⟨h1, h2⟩, h3⟩, h4⟩
    refine ⟨⟨h1, fun j hj => ?_, fun t t1 t2 t3 => ?_⟩, h4⟩
    · rw [msk_tb] at hj
      simp only [Bool.and_eq_true, decide_eq_true_eq] at hj
      apply Classical.byContradiction
      intro n
      have := h2 j hj.1 (by rw [wd j hj.1]; exact decide_eq_false n)
      rw [hj.2] at this; cases this
    · obtain ⟨i, i1, i2, i3⟩ := h3 t t1 t2 t3
      refine ⟨i, fun z => ?_, by rw [msk_tb, i3]; simp [i1]⟩
      rw [wd i i1, z] at i2
      simp at i2
  · rintro ⟨⟨h1, h2, h3⟩, h4⟩
    refine ⟨⟨⟨h1, fun i hi hw => ?_⟩, fun t t1 t2 t3 => ?_⟩, h4⟩
    · cases e : usat P s i
      · rfl
      · have := h2 i (by rw [msk_tb, e]; simp [hi])
        rw [wd i hi, this] at hw
        simp at hw
    · obtain ⟨j, j1, j2⟩ := h3 t t1 t2 t3
      rw [msk_tb] at j2
      simp only [Bool.and_eq_true, decide_eq_true_eq] at j2
      exact ⟨j, j2.1, by rw [wd j j2.1]; exact decide_eq_false j1, j2.2⟩
end MDL
