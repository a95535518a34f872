/-! GROUNDING IN THE REFERENCE: THROUGH ALL CONSTANTS OF A RULE -/
def SR2 : Nat → Nat → Prop := fun a k => SR1 a k ∨ a = 64 ∨ a = 68
theorem CA_set {h : AH} {a v k : Nat} {c : Nat → Nat} (ca : CA h a c) (hk : k ≤ 9) : CA (ap_i h a v (nI k)) a (cup c v k) := cup_ca ca hk
theorem CA_cg {h : AH} {a : Nat} {c c' : Nat → Nat} (ca : CA h a c) (e : ∀ u, u < 4 → c u = c' u) : CA h a c' := ⟨ca.1, ca.2.1, fun u hu => by rw [← e u hu]; exact ca.2.2 u hu⟩
theorem MG.fr {h h' : AH} {A I : List Nat} {W : Nat → Nat → Prop} (g : MG h A I) (f : FR h h' W) (w : ∀ a k, SR1 a k → ¬ W a k) : MG h' A I := by
  obtain ⟨⟨a1, a2, a3, a4⟩, i1, i2, i3⟩ := g
  refine ⟨⟨?_, a2, fun x hx => ?_, fun k hk => ?_⟩, ?_, i2, fun i hi => ?_⟩
  · rw [f.ci (w _ _ (Or.inr ⟨rfl, Or.inl rfl⟩))]; exact a1
  · rw [f.ci (w _ _ (Or.inl (by omega)))]; exact a3 x hx
  · rw [f.ci (w _ _ (Or.inl (by omega)))]; exact a4 k hk
  · rw [f.ci (w _ _ (Or.inr ⟨rfl, Or.inr rfl⟩))]; exact i1
  · rw [f.ci (w _ _ (Or.inl (by omega))), f.ci (w _ _ (Or.inl (by omega)))]; exact i3 i hi
/-- at the place w in the going on: behind it the lowest ones -/
def lws (R : RW) (c : Nat → Nat) (w : Nat) : Nat → Nat := fun u => if w ≤ u ∧ u < 4 then loR R u else c u
section MDL
variable {sc : (Nat → Int32) × Nat} {d : Nat} {h : AH} {Q : Rs → AH → Prop} {R : RW} {c : Nat → Nat} {A I : List Nat}
theorem fr_of (o : R_ok 6 R) {v : Nat} (hv : v < 4) : R_il R v = true → R_fr R v ≤ 9 := fun q => by
  have := o.2.2.2.2.2.2.1 v hv q
  omega
/-- the going on from a place: to constants that come next, or to the end -/
theorem m_98c (hp : SHP h) (o : R_ok 6 R) {n : Nat} {x : Int32} (cr : ∀ v, v < 4 → rng R c v) {h0 : AH} (f0 : FR h0 h SR2) (m : MRw h 68 0 R)
    (N : ∀ w h1, w < 4 → (∀ u, w < u → u < 4 → c u = hR R u) → c w < hR R w → FR h h1 (fun a _ => a = 64) → CA h1 64 (nxc R c w) → ∀ y, TT sc (d + 1) 98 Q 23 [.ref 49, .int (nI n), .int (nI (msk 4 (vall R))), .int x, .int (nI 1), y] [] h1)
    (Z : ∀ h1, (∀ u, u < 4 → c u = hR R u) → FR h h1 (fun a _ => a = 64) → ∀ y, TT sc (d + 1) 98 Q 23 [.ref 49, .int (nI n), .int (nI (msk 4 (vall R))), .int x, .int (nI 0), y] [] h1) :
    ∀ w, w < 4 → (∀ u, w < u → u < 4 → c u = hR R u) → ∀ h1, FR h h1 (fun a _ => a = 64) → CA h1 64 (lws R c (w + 1)) → ∀ y, TT sc (d + 1) 98 Q 42 [.ref 49, .int (nI n), .int (nI (msk 4 (vall R))), .int x, .int y, .int (nI w)] [] h1
  | 0, hw, e, h1, f1, a1, y => by
    have hp1 := hp.fr f1
    have m1 : MRw h1 68 0 R := m.fr f1 fun k z => absurd (show 68 = 64 from z) (by decide)
    have k97 := fun Q => m_97 (sc := sc) (d := d) (Q := Q) hp1 m1 hw (fr_of o hw)
    have k96 := fun Q => m_96 (sc := sc) (d := d) (Q := Q) hp1 m1 hw (fr_of o hw)
    have v := (a1.2.2 0 (by omega)).1
    rw [show lws R c (0 + 1) 0 = c 0 from if_neg (by omega)] at v
    have h9 := hR_le (R := R) (v := 0) o (by omega)
    have lo := loR_le (R := R) (v := 0) o (by omega)
    have cr0 := cr 0 (by omega)
    have en : (nI (c 0) = nI (hR R 0)) = (c 0 = hR R 0) := nI_e (by have := cr0.2; omega) (by omega)
    by_cases q : c 0 = hR R 0
    · have z := Z (ap_i h1 64 0 (nI (loR R 0))) (fun u hu => by
        by_cases w : u = 0
        · rw [w]; exact q
        · exact e u (by omega) hu) (f1.i rfl) (.int (-1))
      have z2 : TT sc (d + 1) 98 Q 42 [.ref 49, .int (nI n), .int (nI (msk 4 (vall R))), .int x, .int y, .int (-1)] [] (ap_i h1 64 0 (nI (loR R 0))) := by
        refine wx_sound (S := [23]) 20 true _ _ _ _ ?_
        simp +contextual (disch := omega) only [K98, wx_t, wx_g, wJ_t, wJ_f, wI_s, CI, CL, C01, aftC_v, aftC_n, true_or, or_true, true_and, and_true, inS_n, inS_c, pI_c, pL_c, pA_c, pV_c, pE_c, pQ_s, pQ_n, pQ_r, cm_eq', cm_ne', cm_lt', cm_ge', cm_gt', cm_le', List.getD_cons_zero, List.getD_cons_succ, Nat.reduceAdd, Nat.reduceBEq, Bool.false_or, Bool.or_false, Bool.true_or, Int.reduceToNat, s_iload, s_lload, s_aload, s_istore, s_astore, s_lstore, s_iconst, s_sipush, s_aconst_null, s_iadd, s_isub, s_imul, s_iand, s_ior, s_ixor, s_idiv, s_irem, s_ishl, s_ishr, s_iushr, s_ladd, s_lsub, s_land, s_lor, s_lxor, s_lneg, s_lshl, s_lshr, s_lushr, s_i2l, s_l2i, s_lcmp, s_dup, s_pop, s_dup2, s_i2c, s_i2s, s_monitorenter, s_ifCond, s_if_icmp, s_ifnull, s_goto, s_iinc, s_tableswitch, s_ireturn, s_freturn, s_lreturn, s_areturn, s_return_, s_ldc, s_getfield, s_putfield, s_iaload, s_iastore, s_laload, s_lastore, s_baload, s_bastore, s_aaload, s_aastore, s_arraylength, s_newarray, s_anewarray, s_new, s_invokestatic, s_invokespecial, s_invokevirtual, fvl_0, fvl_1, fvl_2, fvl_3, fp_0, fp_1, fp_2, fp_3, rf_s, rf_n, isRf_b, knw_b, isLg_b, popA_0, popA_s, st1_0, st1_s, st2_e, set_0, set_s, aftC_e, hxP_s, hxP_n, iteF, iteT, bft, im_t, im_f, nt_f, nt_t, Nat.reduceDiv, Nat.reduceMod, Nat.reduceLeDiff, Nat.reduceLT, Nat.reduceEqDiff, List.length_cons, List.length_nil, Nat.zero_add, Nat.reduceSub, List.cons_append, List.nil_append, ak_i, az_i, ar_i, al_i, ai_i, ak_l, az_l, ar_l, al_l, ai_l, ak_r, az_r, ar_r, al_r, ai_r, pk_m1, reduceCtorEq, msk_tb, mskL, Bool.and_eq_true, decide_eq_true_eq, lg_0, lg_t, lg_g, lg_e, lg_l, tb_z, Nat.mod_eq_of_lt, lN_1s, and_ze, brT, brF, brN, vpT, a4095, a63, nI_e, nI_l', nI_t', dif_z, and_z, and_zr, lN_e, nI_clamp, nx_shr, Nat.reducePow, bI_0, bI_1, bI_z, bI_o, bI_or, n01, nI_add, pk_mul, nx_and, nx_or, nx_dif, lx_and, lx_or, lx_dif, Bool.not_eq_true, Bool.not_eq_false, Bool.true_eq_false, Bool.false_eq_true, m5_c]
        exact z
      refine wx_sound (S := [23, 42]) 40 true _ _ _ _ ?_
      simp +contextual (disch := omega) only [K98, wx_t, wx_g, wJ_t, wJ_f, wI_s, CI, CL, C01, aftC_v, aftC_n, true_or, or_true, true_and, and_true, inS_n, inS_c, pI_c, pL_c, pA_c, pV_c, pE_c, pQ_s, pQ_n, pQ_r, cm_eq', cm_ne', cm_lt', cm_ge', cm_gt', cm_le', List.getD_cons_zero, List.getD_cons_succ, Nat.reduceAdd, Nat.reduceBEq, Bool.false_or, Bool.or_false, Bool.true_or, Int.reduceToNat, s_iload, s_lload, s_aload, s_istore, s_astore, s_lstore, s_iconst, s_sipush, s_aconst_null, s_iadd, s_isub, s_imul, s_iand, s_ior, s_ixor, s_idiv, s_irem, s_ishl, s_ishr, s_iushr, s_ladd, s_lsub, s_land, s_lor, s_lxor, s_lneg, s_lshl, s_lshr, s_lushr, s_i2l, s_l2i, s_lcmp, s_dup, s_pop, s_dup2, s_i2c, s_i2s, s_monitorenter, s_ifCond, s_if_icmp, s_ifnull, s_goto, s_iinc, s_tableswitch, s_ireturn, s_freturn, s_lreturn, s_areturn, s_return_, s_ldc, s_getfield, s_putfield, s_iaload, s_iastore, s_laload, s_lastore, s_baload, s_bastore, s_aaload, s_aastore, s_arraylength, s_newarray, s_anewarray, s_new, s_invokestatic, s_invokespecial, s_invokevirtual, fvl_0, fvl_1, fvl_2, fvl_3, fp_0, fp_1, fp_2, fp_3, rf_s, rf_n, isRf_b, knw_b, isLg_b, popA_0, popA_s, st1_0, st1_s, st2_e, set_0, set_s, aftC_e, hxP_s, hxP_n, iteF, iteT, bft, im_t, im_f, nt_f, nt_t, Nat.reduceDiv, Nat.reduceMod, Nat.reduceLeDiff, Nat.reduceLT, Nat.reduceEqDiff, List.length_cons, List.length_nil, Nat.zero_add, Nat.reduceSub, List.cons_append, List.nil_append, ak_i, az_i, ar_i, al_i, ai_i, ak_l, az_l, ar_l, al_l, ai_l, ak_r, az_r, ar_r, al_r, ai_r, pk_m1, reduceCtorEq, msk_tb, mskL, Bool.and_eq_true, decide_eq_true_eq, lg_0, lg_t, lg_g, lg_e, lg_l, tb_z, Nat.mod_eq_of_lt, lN_1s, and_ze, brT, brF, brN, vpT, a4095, a63, nI_e, nI_l', nI_t', dif_z, and_z, and_zr, lN_e, nI_clamp, nx_shr, Nat.reducePow, bI_0, bI_1, bI_z, bI_o, bI_or, n01, nI_add, pk_mul, nx_and, nx_or, nx_dif, lx_and, lx_or, lx_dif, Bool.not_eq_true, Bool.not_eq_false, Bool.true_eq_false, Bool.false_eq_true, ss_49 hp1, k97, k96, v, en, q, m5_c, show nI 0 + (-1) = -1 from rfl]
      exact z2
    · have z := N 0 (ap_i h1 64 0 (nI (c 0 + 1))) hw e (by have := cr0.2; omega) (f1.i rfl) (CA_cg (CA_set a1 (by have := cr0.2; omega)) fun u hu => by
        unfold cup nxc lws
        by_cases w : u = 0
        · rw [if_pos w, if_pos w]
        · rw [if_neg w, if_neg w, if_pos (by omega), if_pos (by omega)])
      have z2 : TT sc (d + 1) 98 Q 63 [.ref 49, .int (nI n), .int (nI (msk 4 (vall R))), .int x, .int y, .int (nI 0)] [] h1 := by
        refine wx_sound (S := [23]) 20 true _ _ _ _ ?_
        simp +contextual (disch := omega) only [K98, wx_t, wx_g, wJ_t, wJ_f, wI_s, CI, CL, C01, aftC_v, aftC_n, true_or, or_true, true_and, and_true, inS_n, inS_c, pI_c, pL_c, pA_c, pV_c, pE_c, pQ_s, pQ_n, pQ_r, cm_eq', cm_ne', cm_lt', cm_ge', cm_gt', cm_le', List.getD_cons_zero, List.getD_cons_succ, Nat.reduceAdd, Nat.reduceBEq, Bool.false_or, Bool.or_false, Bool.true_or, Int.reduceToNat, s_iload, s_lload, s_aload, s_istore, s_astore, s_lstore, s_iconst, s_sipush, s_aconst_null, s_iadd, s_isub, s_imul, s_iand, s_ior, s_ixor, s_idiv, s_irem, s_ishl, s_ishr, s_iushr, s_ladd, s_lsub, s_land, s_lor, s_lxor, s_lneg, s_lshl, s_lshr, s_lushr, s_i2l, s_l2i, s_lcmp, s_dup, s_pop, s_dup2, s_i2c, s_i2s, s_monitorenter, s_ifCond, s_if_icmp, s_ifnull, s_goto, s_iinc, s_tableswitch, s_ireturn, s_freturn, s_lreturn, s_areturn, s_return_, s_ldc, s_getfield, s_putfield, s_iaload, s_iastore, s_laload, s_lastore, s_baload, s_bastore, s_aaload, s_aastore, s_arraylength, s_newarray, s_anewarray, s_new, s_invokestatic, s_invokespecial, s_invokevirtual, fvl_0, fvl_1, fvl_2, fvl_3, fp_0, fp_1, fp_2, fp_3, rf_s, rf_n, isRf_b, knw_b, isLg_b, popA_0, popA_s, st1_0, st1_s, st2_e, set_0, set_s, aftC_e, hxP_s, hxP_n, iteF, iteT, bft, im_t, im_f, nt_f, nt_t, Nat.reduceDiv, Nat.reduceMod, Nat.reduceLeDiff, Nat.reduceLT, Nat.reduceEqDiff, List.length_cons, List.length_nil, Nat.zero_add, Nat.reduceSub, List.cons_append, List.nil_append, ak_i, az_i, ar_i, al_i, ai_i, ak_l, az_l, ar_l, al_l, ai_l, ak_r, az_r, ar_r, al_r, ai_r, pk_m1, reduceCtorEq, msk_tb, mskL, Bool.and_eq_true, decide_eq_true_eq, lg_0, lg_t, lg_g, lg_e, lg_l, tb_z, Nat.mod_eq_of_lt, lN_1s, and_ze, brT, brF, brN, vpT, a4095, a63, nI_e, nI_l', nI_t', dif_z, and_z, and_zr, lN_e, nI_clamp, nx_shr, Nat.reducePow, bI_0, bI_1, bI_z, bI_o, bI_or, n01, nI_add, pk_mul, nx_and, nx_or, nx_dif, lx_and, lx_or, lx_dif, Bool.not_eq_true, Bool.not_eq_false, Bool.true_eq_false, Bool.false_eq_true, ss_49 hp1, v, m5_c]
        exact z _
      refine wx_sound (S := [23, 63]) 20 true _ _ _ _ ?_
      simp +contextual (disch := omega) only [K98, wx_t, wx_g, wJ_t, wJ_f, wI_s, CI, CL, C01, aftC_v, aftC_n, true_or, or_true, true_and, and_true, inS_n, inS_c, pI_c, pL_c, pA_c, pV_c, pE_c, pQ_s, pQ_n, pQ_r, cm_eq', cm_ne', cm_lt', cm_ge', cm_gt', cm_le', List.getD_cons_zero, List.getD_cons_succ, Nat.reduceAdd, Nat.reduceBEq, Bool.false_or, Bool.or_false, Bool.true_or, Int.reduceToNat, s_iload, s_lload, s_aload, s_istore, s_astore, s_lstore, s_iconst, s_sipush, s_aconst_null, s_iadd, s_isub, s_imul, s_iand, s_ior, s_ixor, s_idiv, s_irem, s_ishl, s_ishr, s_iushr, s_ladd, s_lsub, s_land, s_lor, s_lxor, s_lneg, s_lshl, s_lshr, s_lushr, s_i2l, s_l2i, s_lcmp, s_dup, s_pop, s_dup2, s_i2c, s_i2s, s_monitorenter, s_ifCond, s_if_icmp, s_ifnull, s_goto, s_iinc, s_tableswitch, s_ireturn, s_freturn, s_lreturn, s_areturn, s_return_, s_ldc, s_getfield, s_putfield, s_iaload, s_iastore, s_laload, s_lastore, s_baload, s_bastore, s_aaload, s_aastore, s_arraylength, s_newarray, s_anewarray, s_new, s_invokestatic, s_invokespecial, s_invokevirtual, fvl_0, fvl_1, fvl_2, fvl_3, fp_0, fp_1, fp_2, fp_3, rf_s, rf_n, isRf_b, knw_b, isLg_b, popA_0, popA_s, st1_0, st1_s, st2_e, set_0, set_s, aftC_e, hxP_s, hxP_n, iteF, iteT, bft, im_t, im_f, nt_f, nt_t, Nat.reduceDiv, Nat.reduceMod, Nat.reduceLeDiff, Nat.reduceLT, Nat.reduceEqDiff, List.length_cons, List.length_nil, Nat.zero_add, Nat.reduceSub, List.cons_append, List.nil_append, ak_i, az_i, ar_i, al_i, ai_i, ak_l, az_l, ar_l, al_l, ai_l, ak_r, az_r, ar_r, al_r, ai_r, pk_m1, reduceCtorEq, msk_tb, mskL, Bool.and_eq_true, decide_eq_true_eq, lg_0, lg_t, lg_g, lg_e, lg_l, tb_z, Nat.mod_eq_of_lt, lN_1s, and_ze, brT, brF, brN, vpT, a4095, a63, nI_e, nI_l', nI_t', dif_z, and_z, and_zr, lN_e, nI_clamp, nx_shr, Nat.reducePow, bI_0, bI_1, bI_z, bI_o, bI_or, n01, nI_add, pk_mul, nx_and, nx_or, nx_dif, lx_and, lx_or, lx_dif, Bool.not_eq_true, Bool.not_eq_false, Bool.true_eq_false, Bool.false_eq_true, ss_49 hp1, k97, k96, v, en, q, m5_c]
      exact z2
  | w + 1, hw, e, h1, f1, a1, y => by
    have hp1 := hp.fr f1
    have m1 : MRw h1 68 0 R := m.fr f1 fun k z => absurd (show 68 = 64 from z) (by decide)
    have k97 := fun Q => m_97 (sc := sc) (d := d) (Q := Q) hp1 m1 hw (fr_of o hw)
    have k96 := fun Q => m_96 (sc := sc) (d := d) (Q := Q) hp1 m1 hw (fr_of o hw)
    have v := (a1.2.2 (w + 1) hw).1
    rw [show lws R c (w + 1 + 1) (w + 1) = c (w + 1) from if_neg (by omega)] at v
    have h9 := hR_le (R := R) (v := w + 1) o hw
    have lo := loR_le (R := R) (v := w + 1) o hw
    have cr0 := cr (w + 1) hw
    have en : (nI (c (w + 1)) = nI (hR R (w + 1))) = (c (w + 1) = hR R (w + 1)) := nI_e (by have := cr0.2; omega) (by omega)
    by_cases q : c (w + 1) = hR R (w + 1)
    · have z := m_98c hp o cr f0 m N Z w (by omega) (fun u q1 q2 => by
        by_cases w2 : u = w + 1
        · rw [w2]; exact q
        · exact e u (by omega) q2) (ap_i h1 64 (w + 1) (nI (loR R (w + 1)))) (f1.i rfl) (CA_cg (CA_set a1 lo.2) fun u hu => by
        unfold cup lws
        by_cases w2 : u = w + 1
        · rw [if_pos w2, if_pos (by omega), w2]
        · rw [if_neg w2]
          by_cases w3 : w + 1 + 1 ≤ u ∧ u < 4
          · rw [if_pos w3, if_pos (by omega)]
          · rw [if_neg w3, if_neg (by omega)]) y
      refine wx_sound (S := [23, 42]) 80 true _ _ _ _ ?_
      simp +contextual (disch := omega) only [K98, wx_t, wx_g, wJ_t, wJ_f, wI_s, CI, CL, C01, aftC_v, aftC_n, true_or, or_true, true_and, and_true, inS_n, inS_c, pI_c, pL_c, pA_c, pV_c, pE_c, pQ_s, pQ_n, pQ_r, cm_eq', cm_ne', cm_lt', cm_ge', cm_gt', cm_le', List.getD_cons_zero, List.getD_cons_succ, Nat.reduceAdd, Nat.reduceBEq, Bool.false_or, Bool.or_false, Bool.true_or, Int.reduceToNat, s_iload, s_lload, s_aload, s_istore, s_astore, s_lstore, s_iconst, s_sipush, s_aconst_null, s_iadd, s_isub, s_imul, s_iand, s_ior, s_ixor, s_idiv, s_irem, s_ishl, s_ishr, s_iushr, s_ladd, s_lsub, s_land, s_lor, s_lxor, s_lneg, s_lshl, s_lshr, s_lushr, s_i2l, s_l2i, s_lcmp, s_dup, s_pop, s_dup2, s_i2c, s_i2s, s_monitorenter, s_ifCond, s_if_icmp, s_ifnull, s_goto, s_iinc, s_tableswitch, s_ireturn, s_freturn, s_lreturn, s_areturn, s_return_, s_ldc, s_getfield, s_putfield, s_iaload, s_iastore, s_laload, s_lastore, s_baload, s_bastore, s_aaload, s_aastore, s_arraylength, s_newarray, s_anewarray, s_new, s_invokestatic, s_invokespecial, s_invokevirtual, fvl_0, fvl_1, fvl_2, fvl_3, fp_0, fp_1, fp_2, fp_3, rf_s, rf_n, isRf_b, knw_b, isLg_b, popA_0, popA_s, st1_0, st1_s, st2_e, set_0, set_s, aftC_e, hxP_s, hxP_n, iteF, iteT, bft, im_t, im_f, nt_f, nt_t, Nat.reduceDiv, Nat.reduceMod, Nat.reduceLeDiff, Nat.reduceLT, Nat.reduceEqDiff, List.length_cons, List.length_nil, Nat.zero_add, Nat.reduceSub, List.cons_append, List.nil_append, ak_i, az_i, ar_i, al_i, ai_i, ak_l, az_l, ar_l, al_l, ai_l, ak_r, az_r, ar_r, al_r, ai_r, pk_m1, reduceCtorEq, msk_tb, mskL, Bool.and_eq_true, decide_eq_true_eq, lg_0, lg_t, lg_g, lg_e, lg_l, tb_z, Nat.mod_eq_of_lt, lN_1s, and_ze, brT, brF, brN, vpT, a4095, a63, nI_e, nI_l', nI_t', dif_z, and_z, and_zr, lN_e, nI_clamp, nx_shr, Nat.reducePow, bI_0, bI_1, bI_z, bI_o, bI_or, n01, nI_add, pk_mul, nx_and, nx_or, nx_dif, lx_and, lx_or, lx_dif, Bool.not_eq_true, Bool.not_eq_false, Bool.true_eq_false, Bool.false_eq_true, ss_49 hp1, k97, k96, v, en, q, m5_c]
      exact z
    · have z := N (w + 1) (ap_i h1 64 (w + 1) (nI (c (w + 1) + 1))) hw e (by have := cr0.2; omega) (f1.i rfl) (CA_cg (CA_set a1 (by have := cr0.2; omega)) fun u hu => by
        unfold cup nxc lws
        by_cases w2 : u = w + 1
        · rw [if_pos w2, if_pos w2]
        · rw [if_neg w2, if_neg w2]
          by_cases w3 : w + 1 + 1 ≤ u ∧ u < 4
          · rw [if_pos w3, if_pos (by omega)]
          · rw [if_neg w3, if_neg (by omega)])
      have z2 : TT sc (d + 1) 98 Q 63 [.ref 49, .int (nI n), .int (nI (msk 4 (vall R))), .int x, .int y, .int (nI (w + 1))] [] h1 := by
        refine wx_sound (S := [23]) 20 true _ _ _ _ ?_
        simp +contextual (disch := omega) only [K98, wx_t, wx_g, wJ_t, wJ_f, wI_s, CI, CL, C01, aftC_v, aftC_n, true_or, or_true, true_and, and_true, inS_n, inS_c, pI_c, pL_c, pA_c, pV_c, pE_c, pQ_s, pQ_n, pQ_r, cm_eq', cm_ne', cm_lt', cm_ge', cm_gt', cm_le', List.getD_cons_zero, List.getD_cons_succ, Nat.reduceAdd, Nat.reduceBEq, Bool.false_or, Bool.or_false, Bool.true_or, Int.reduceToNat, s_iload, s_lload, s_aload, s_istore, s_astore, s_lstore, s_iconst, s_sipush, s_aconst_null, s_iadd, s_isub, s_imul, s_iand, s_ior, s_ixor, s_idiv, s_irem, s_ishl, s_ishr, s_iushr, s_ladd, s_lsub, s_land, s_lor, s_lxor, s_lneg, s_lshl, s_lshr, s_lushr, s_i2l, s_l2i, s_lcmp, s_dup, s_pop, s_dup2, s_i2c, s_i2s, s_monitorenter, s_ifCond, s_if_icmp, s_ifnull, s_goto, s_iinc, s_tableswitch, s_ireturn, s_freturn, s_lreturn, s_areturn, s_return_, s_ldc, s_getfield, s_putfield, s_iaload, s_iastore, s_laload, s_lastore, s_baload, s_bastore, s_aaload, s_aastore, s_arraylength, s_newarray, s_anewarray, s_new, s_invokestatic, s_invokespecial, s_invokevirtual, fvl_0, fvl_1, fvl_2, fvl_3, fp_0, fp_1, fp_2, fp_3, rf_s, rf_n, isRf_b, knw_b, isLg_b, popA_0, popA_s, st1_0, st1_s, st2_e, set_0, set_s, aftC_e, hxP_s, hxP_n, iteF, iteT, bft, im_t, im_f, nt_f, nt_t, Nat.reduceDiv, Nat.reduceMod, Nat.reduceLeDiff, Nat.reduceLT, Nat.reduceEqDiff, List.length_cons, List.length_nil, Nat.zero_add, Nat.reduceSub, List.cons_append, List.nil_append, ak_i, az_i, ar_i, al_i, ai_i, ak_l, az_l, ar_l, al_l, ai_l, ak_r, az_r, ar_r, al_r, ai_r, pk_m1, reduceCtorEq, msk_tb, mskL, Bool.and_eq_true, decide_eq_true_eq, lg_0, lg_t, lg_g, lg_e, lg_l, tb_z, Nat.mod_eq_of_lt, lN_1s, and_ze, brT, brF, brN, vpT, a4095, a63, nI_e, nI_l', nI_t', dif_z, and_z, and_zr, lN_e, nI_clamp, nx_shr, Nat.reducePow, bI_0, bI_1, bI_z, bI_o, bI_or, n01, nI_add, pk_mul, nx_and, nx_or, nx_dif, lx_and, lx_or, lx_dif, Bool.not_eq_true, Bool.not_eq_false, Bool.true_eq_false, Bool.false_eq_true, ss_49 hp1, v, m5_c]
        exact z _
      refine wx_sound (S := [23, 63]) 20 true _ _ _ _ ?_
      simp +contextual (disch := omega) only [K98, wx_t, wx_g, wJ_t, wJ_f, wI_s, CI, CL, C01, aftC_v, aftC_n, true_or, or_true, true_and, and_true, inS_n, inS_c, pI_c, pL_c, pA_c, pV_c, pE_c, pQ_s, pQ_n, pQ_r, cm_eq', cm_ne', cm_lt', cm_ge', cm_gt', cm_le', List.getD_cons_zero, List.getD_cons_succ, Nat.reduceAdd, Nat.reduceBEq, Bool.false_or, Bool.or_false, Bool.true_or, Int.reduceToNat, s_iload, s_lload, s_aload, s_istore, s_astore, s_lstore, s_iconst, s_sipush, s_aconst_null, s_iadd, s_isub, s_imul, s_iand, s_ior, s_ixor, s_idiv, s_irem, s_ishl, s_ishr, s_iushr, s_ladd, s_lsub, s_land, s_lor, s_lxor, s_lneg, s_lshl, s_lshr, s_lushr, s_i2l, s_l2i, s_lcmp, s_dup, s_pop, s_dup2, s_i2c, s_i2s, s_monitorenter, s_ifCond, s_if_icmp, s_ifnull, s_goto, s_iinc, s_tableswitch, s_ireturn, s_freturn, s_lreturn, s_areturn, s_return_, s_ldc, s_getfield, s_putfield, s_iaload, s_iastore, s_laload, s_lastore, s_baload, s_bastore, s_aaload, s_aastore, s_arraylength, s_newarray, s_anewarray, s_new, s_invokestatic, s_invokespecial, s_invokevirtual, fvl_0, fvl_1, fvl_2, fvl_3, fp_0, fp_1, fp_2, fp_3, rf_s, rf_n, isRf_b, knw_b, isLg_b, popA_0, popA_s, st1_0, st1_s, st2_e, set_0, set_s, aftC_e, hxP_s, hxP_n, iteF, iteT, bft, im_t, im_f, nt_f, nt_t, Nat.reduceDiv, Nat.reduceMod, Nat.reduceLeDiff, Nat.reduceLT, Nat.reduceEqDiff, List.length_cons, List.length_nil, Nat.zero_add, Nat.reduceSub, List.cons_append, List.nil_append, ak_i, az_i, ar_i, al_i, ai_i, ak_l, az_l, ar_l, al_l, ai_l, ak_r, az_r, ar_r, al_r, ai_r, pk_m1, reduceCtorEq, msk_tb, mskL, Bool.and_eq_true, decide_eq_true_eq, lg_0, lg_t, lg_g, lg_e, lg_l, tb_z, Nat.mod_eq_of_lt, lN_1s, and_ze, brT, brF, brN, vpT, a4095, a63, nI_e, nI_l', nI_t', dif_z, and_z, and_zr, lN_e, nI_clamp, nx_shr, Nat.reducePow, bI_0, bI_1, bI_z, bI_o, bI_or, n01, nI_add, pk_mul, nx_and, nx_or, nx_dif, lx_and, lx_or, lx_dif, Bool.not_eq_true, Bool.not_eq_false, Bool.true_eq_false, Bool.false_eq_true, ss_49 hp1, k97, k96, v, en, q, m5_c]
      exact z2
end MDL
