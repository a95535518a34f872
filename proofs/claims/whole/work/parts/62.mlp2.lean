/-! THE REFERENCE: LOOPS, UNFOUNDED PARTS -/
theorem nhs_s (P : PG) (s i : Nat) : nhs P s (i + 1) = if P_hd P i &&& s = 0 then nhs P s i else nhs P s i ||| P_nd P i := rfl
theorem nhs_tb {P : PG} {x b : Nat} : ∀ {k : Nat}, (nhs P x k).testBit b = true ↔ ∃ i, i < k ∧ P_hd P i &&& x ≠ 0 ∧ (P_nd P i).testBit b = true
  | 0 => by
    unfold nhs
    rw [Nat.zero_testBit]
    exact Iff.intro (fun z => (Bool.false_ne_true z).elim) (fun ⟨s, h, _⟩ => absurd h (by omega))
  | k + 1 => by
    have ih := nhs_tb (P := P) (x := x) (b := b) (k := k)
    rw [nhs_s]
    by_cases e : P_hd P k &&& x = 0
    · rw [if_pos e, ih]
      constructor
      · exact fun ⟨i, h1, h2⟩ => ⟨i, by omega, h2⟩
      · rintro ⟨i, h1, h2, h3⟩
        rcases Nat.lt_or_ge i k with z | z
        · exact ⟨i, z, h2, h3⟩
        · have : i = k := by omega
          rw [this] at h2; exact absurd e h2
    · rw [if_neg e, Nat.testBit_or, Bool.or_eq_true, ih]
      constructor
      · rintro (⟨i, h1, h2⟩ | h)
        · exact ⟨i, by omega, h2⟩
        · exact ⟨k, by omega, e, h⟩
      · rintro ⟨i, h1, h2, h3⟩
        rcases Nat.lt_or_ge i k with z | z
        · exact Or.inl ⟨i, z, h2, h3⟩
        · have : i = k := by omega
          rw [this] at h3; exact Or.inr h3
theorem rch_s (P : PG) (a j : Nat) : rch P a (j + 1) = rch P a j ||| nhs P (rch P a j) (P_m P) := rfl
theorem rch_up {P : PG} {a i : Nat} {k : Nat} (h : (rch P a k).testBit i = true) : (rch P a (k + 1)).testBit i = true := by
  rw [rch_s, Nat.testBit_or, h]; rfl
theorem rch_stb {P : PG} (o : P_ok P) (a : Nat) : ∀ k, rch P a (k + 1) = rch P a k ∨ k ≤ pop (rch P a k) 12
  | 0 => Or.inr (Nat.zero_le _)
  | k + 1 => by
    rcases rch_stb o a k with h | h
    · refine Or.inl ?_
      rw [rch_s (j := k + 1), h, ← rch_s, h]
    · by_cases e : rch P a (k + 1) = rch P a k
      · refine Or.inl ?_
        rw [rch_s (j := k + 1), e, ← rch_s, e]
      · refine Or.inr ?_
        obtain ⟨j, j1, j2⟩ : ∃ j, (rch P a (k + 1)).testBit j = true ∧ (rch P a k).testBit j = false := by
          apply Classical.byContradiction
          intro no
          refine e (Nat.eq_of_testBit_eq fun i => ?_)
          cases e1 : (rch P a k).testBit i
          · cases e2 : (rch P a (k + 1)).testBit i
            · rfl
            · exact (no ⟨i, e2, e1⟩).elim
          · exact rch_up e1
        have j12 : j < 12 := by
          rcases Nat.lt_or_ge j 12 with z | z
          · exact z
          · rw [tb_ge (n := 12) (Nat.lt_of_lt_of_le (rch_lt o a (k + 1)) (p2_le o.1)) z] at j1; cases j1
        have := pop_slt (fun i hi => rch_up hi) j1 j2 j12
        omega
theorem pop_full {x : Nat} : ∀ {n : Nat}, n ≤ pop x n → ∀ i, i < n → x.testBit i = true
  | 0, _, i, hi => absurd hi (by omega)
  | n + 1, h, i, hi => by
    rw [pop_s] at h
    have := pop_le x n
    cases e : x.testBit n
    · rw [e] at h; simp at h; omega
    · by_cases q : i = n
      · rw [q]; exact e
      · rw [e] at h; simp at h
        exact pop_full (by omega) i (by omega)
theorem rch_12 {P : PG} (o : P_ok P) (a : Nat) : rch P a 13 = rch P a 12 := by
  rcases rch_stb o a 12 with h | h
  · exact h
  · refine Nat.eq_of_testBit_eq fun i => ?_
    by_cases e : i < 12
    · rw [rch_up (pop_full h i e), pop_full h i e]
    · rw [tb_ge (n := 12) (Nat.lt_of_lt_of_le (rch_lt o a 13) (p2_le o.1)) (by omega), tb_ge (n := 12) (Nat.lt_of_lt_of_le (rch_lt o a 12) (p2_le o.1)) (by omega)]
theorem rch_HO {P : PG} (o : P_ok P) {a b : Nat} : (rch P a 12).testBit b = true ↔ HO P a b := by
  constructor
  · have key : ∀ k b, (rch P a k).testBit b = true → HO P a b := by
      intro k
      induction k with
      | zero =>
        intro b hb z cz
        obtain ⟨i, h1, h2, h3⟩ := nhs_tb.mp hb
        obtain ⟨j, j1, j2⟩ := ne_ex h2
        refine cz i h1 (ne_z j1 ?_) b h3
        rw [Nat.testBit_or, j2]; rfl
      | succ k ih =>
        intro b hb z cz
        rw [rch_s, Nat.testBit_or, Bool.or_eq_true] at hb
        rcases hb with hb | hb
        · exact ih b hb z cz
        · obtain ⟨i, h1, h2, h3⟩ := nhs_tb.mp hb
          obtain ⟨j, j1, j2⟩ := ne_ex h2
          refine cz i h1 (ne_z j1 ?_) b h3
          rw [Nat.testBit_or, ih j j2 z cz, Bool.or_true]
    exact key 12 b
  · intro H
    refine H _ fun i h1 h2 j hj => ?_
    obtain ⟨l, l1, l2⟩ := ne_ex h2
    rw [Nat.testBit_or, Bool.or_eq_true] at l2
    rcases l2 with l2 | l2
    · have z0 : (rch P a 0).testBit j = true := nhs_tb.mpr ⟨i, h1, ne_z l1 l2, hj⟩
      have up : ∀ k, (rch P a k).testBit j = true := fun k => by
        induction k with
        | zero => exact z0
        | succ k ih => exact rch_up ih
      exact up 12
    · have : (rch P a 13).testBit j = true := by
        rw [rch_s, Nat.testBit_or, nhs_tb.mpr ⟨i, h1, ne_z l1 l2, hj⟩, Bool.or_true]
      rw [rch_12 o] at this
      exact this
theorem HO_tr {P : PG} {a b : Nat} (h1 : HO P a b) (h2 : HO P b a) : HO P a a := fun z cz => by
  have hb := h1 z cz
  refine h2 z fun i hi h j hj => cz i hi ?_ j hj
  obtain ⟨l, l1, l2⟩ := ne_ex h
  rw [Nat.testBit_or, Bool.or_eq_true, tb_pow] at l2
  refine ne_z l1 ?_
  rw [Nat.testBit_or, Bool.or_eq_true]
  rcases l2 with l2 | l2
  · have := of_decide_eq_true l2
    exact Or.inr (this ▸ hb)
  · exact Or.inr l2
theorem lop_e {P : PG} (o : P_ok P) (a : Nat) : lop P a = msk (P_n P) fun b => bP (HO P a b ∧ HO P b a) := by
  have key : ∀ b, ((rch P a 12).testBit b && (rch P b 12).testBit a) = bP (HO P a b ∧ HO P b a) := fun b => by
    rw [← bP_b (_ && _)]
    refine bP_c ?_
    rw [Bool.and_eq_true, rch_HO o, rch_HO o]
  unfold lop
  cases e : (rch P a 12).testBit a
  · rw [cond_false]
    refine ((msk_z _ _).mpr fun b _ => bP_no fun ⟨h1, h2⟩ => ?_).symm
    rw [(rch_HO o).mpr (HO_tr h1 h2)] at e; cases e
  · rw [cond_true]
    exact msk_c fun b _ => key b
section MDL
variable {sc : (Nat → Int32) × Nat} {d : Nat} {h : AH} {Q : Rs → AH → Prop} {P : PG} {A T F : Nat}
theorem m_147 (q0 : MQS h P A T F) {a : Nat} (ha : a < P_n P) : TC sc (d + 7) 147 [.ref 49, .int (nI a)] h fun q h' => q = .inl (some (.int (nI (lop P a)))) ∧ RM h P A T F 0 h' := by
  have n12 := q0.1.n
  have pn := q0.1.pn
  generalize hQ : (fun (q : Rs) (h' : AH) => q = .inl (some (.int (nI (lop P a)))) ∧ RM h P A T F 0 h') = Q
  have r0 : RM h P A T F 0 (ap_i h 49 0 (nI 0)) := RM.no q0
  refine TC_e (ls := [.ref 49, .int (nI a), unk, unk, unk]) (Nat.le_of_ble_eq_true rfl) rfl (wx_sound (S := [22]) 60 true _ _ _ _ ?_)
  simp +contextual (disch := omega) only [K147, wx_t, wx_g, wJ_t, wJ_f, wI_s, CI, CL, C01, aftC_v, aftC_n, true_or, or_true, true_and, and_true, inS_n, inS_c, pI_c, pL_c, pA_c, pV_c, pE_c, pQ_s, pQ_n, pQ_r, cm_eq', cm_ne', cm_lt', cm_ge', cm_gt', cm_le', List.getD_cons_zero, List.getD_cons_succ, Nat.reduceAdd, Nat.reduceBEq, Bool.false_or, Bool.or_false, Bool.true_or, Int.reduceToNat, s_iload, s_lload, s_aload, s_istore, s_astore, s_lstore, s_iconst, s_sipush, s_aconst_null, s_iadd, s_isub, s_imul, s_iand, s_ior, s_ixor, s_idiv, s_irem, s_ishl, s_ishr, s_iushr, s_ladd, s_lsub, s_land, s_lor, s_lxor, s_lneg, s_lshl, s_lshr, s_lushr, s_i2l, s_l2i, s_lcmp, s_dup, s_pop, s_dup2, s_i2c, s_i2s, s_monitorenter, s_ifCond, s_if_icmp, s_ifnull, s_goto, s_iinc, s_tableswitch, s_ireturn, s_freturn, s_lreturn, s_areturn, s_return_, s_ldc, s_getfield, s_putfield, s_iaload, s_iastore, s_laload, s_lastore, s_baload, s_bastore, s_aaload, s_aastore, s_arraylength, s_newarray, s_anewarray, s_new, s_invokestatic, s_invokespecial, s_invokevirtual, fvl_0, fvl_1, fvl_2, fvl_3, fp_0, fp_1, fp_2, fp_3, rf_s, rf_n, isRf_b, knw_b, isLg_b, popA_0, popA_s, st1_0, st1_s, st2_e, set_0, set_s, aftC_e, hxP_s, hxP_n, iteF, iteT, bft, im_t, im_f, nt_f, nt_t, Nat.reduceDiv, Nat.reduceMod, Nat.reduceLeDiff, Nat.reduceLT, Nat.reduceEqDiff, List.length_cons, List.length_nil, Nat.zero_add, Nat.reduceSub, List.cons_append, List.nil_append, ak_i, az_i, ar_i, al_i, ai_i, ak_l, az_l, ar_l, al_l, ai_l, ak_r, az_r, ar_r, al_r, ai_r, pk_m1, reduceCtorEq, msk_tb, mskL, Bool.and_eq_true, decide_eq_true_eq, lg_0, lg_t, lg_g, lg_e, lg_l, tb_z, Nat.mod_eq_of_lt, lN_1s, and_ze, brT, brF, brN, vpT, a4095, a63, nI_e, nI_l', nI_t', dif_z, and_z, and_zr, lN_e, nI_clamp, nx_shr, Nat.reducePow, bI_0, bI_1, bI_z, bI_o, bI_or, n01, nI_add, pk_mul, nx_and, nx_or, nx_dif, lx_and, lx_or, lx_dif, Bool.not_eq_true, Bool.not_eq_false, Bool.true_eq_false, Bool.false_eq_true, ss_49 q0.1.1, m_61z q0.1.1, m_64 q0.1, bP_tt, nx_bit]
  have c1 := r0.2.1.1
  generalize ap_i h 49 0 (nI 0) = h1 at *
  refine TC_mono (m_146 c1 ha) ?_
  rintro q h' ⟨rfl, y, rfl, y1, y2⟩
  have lp : ∀ k, k ≤ P_n P → ∀ z, z = msk (P_n P) (fun b => decide (b < k) && bP (HO P a b ∧ HO P b a)) → TT sc (d + 6) 147 Q 22 [.ref 49, .int (nI a), .int (nI y), .int (nI z), .int (nI k)] [] h' := by
    refine up_to fun k hk ih => ?_
    intro z hz
    by_cases e : k < P_n P
    · refine wx_sound (S := [22]) 60 true _ _ _ _ ?_
      simp +contextual (disch := omega) only [K147, wx_t, wx_g, wJ_t, wJ_f, wI_s, CI, CL, C01, aftC_v, aftC_n, true_or, or_true, true_and, and_true, inS_n, inS_c, pI_c, pL_c, pA_c, pV_c, pE_c, pQ_s, pQ_n, pQ_r, cm_eq', cm_ne', cm_lt', cm_ge', cm_gt', cm_le', List.getD_cons_zero, List.getD_cons_succ, Nat.reduceAdd, Nat.reduceBEq, Bool.false_or, Bool.or_false, Bool.true_or, Int.reduceToNat, s_iload, s_lload, s_aload, s_istore, s_astore, s_lstore, s_iconst, s_sipush, s_aconst_null, s_iadd, s_isub, s_imul, s_iand, s_ior, s_ixor, s_idiv, s_irem, s_ishl, s_ishr, s_iushr, s_ladd, s_lsub, s_land, s_lor, s_lxor, s_lneg, s_lshl, s_lshr, s_lushr, s_i2l, s_l2i, s_lcmp, s_dup, s_pop, s_dup2, s_i2c, s_i2s, s_monitorenter, s_ifCond, s_if_icmp, s_ifnull, s_goto, s_iinc, s_tableswitch, s_ireturn, s_freturn, s_lreturn, s_areturn, s_return_, s_ldc, s_getfield, s_putfield, s_iaload, s_iastore, s_laload, s_lastore, s_baload, s_bastore, s_aaload, s_aastore, s_arraylength, s_newarray, s_anewarray, s_new, s_invokestatic, s_invokespecial, s_invokevirtual, fvl_0, fvl_1, fvl_2, fvl_3, fp_0, fp_1, fp_2, fp_3, rf_s, rf_n, isRf_b, knw_b, isLg_b, popA_0, popA_s, st1_0, st1_s, st2_e, set_0, set_s, aftC_e, hxP_s, hxP_n, iteF, iteT, bft, im_t, im_f, nt_f, nt_t, Nat.reduceDiv, Nat.reduceMod, Nat.reduceLeDiff, Nat.reduceLT, Nat.reduceEqDiff, List.length_cons, List.length_nil, Nat.zero_add, Nat.reduceSub, List.cons_append, List.nil_append, ak_i, az_i, ar_i, al_i, ai_i, ak_l, az_l, ar_l, al_l, ai_l, ak_r, az_r, ar_r, al_r, ai_r, pk_m1, reduceCtorEq, msk_tb, mskL, Bool.and_eq_true, decide_eq_true_eq, lg_0, lg_t, lg_g, lg_e, lg_l, tb_z, Nat.mod_eq_of_lt, lN_1s, and_ze, brT, brF, brN, vpT, a4095, a63, nI_e, nI_l', nI_t', dif_z, and_z, and_zr, lN_e, nI_clamp, nx_shr, Nat.reducePow, bI_0, bI_1, bI_z, bI_o, bI_or, n01, nI_add, pk_mul, nx_and, nx_or, nx_dif, lx_and, lx_or, lx_dif, Bool.not_eq_true, Bool.not_eq_false, Bool.true_eq_false, Bool.false_eq_true, ss_49 c1.1, c1.f.1, tb_mod, nt1, nx_bit]
      refine And.intro (fun e1 => ?_) fun e1 => ?_
      · refine TC_mono (m_146 c1 e) ?_
        rintro q h3 ⟨rfl, w, rfl, w1, w2⟩
        simp +contextual (disch := omega) only [K147, wx_t, wx_g, wJ_t, wJ_f, wI_s, CI, CL, C01, aftC_v, aftC_n, true_or, or_true, true_and, and_true, inS_n, inS_c, pI_c, pL_c, pA_c, pV_c, pE_c, pQ_s, pQ_n, pQ_r, cm_eq', cm_ne', cm_lt', cm_ge', cm_gt', cm_le', List.getD_cons_zero, List.getD_cons_succ, Nat.reduceAdd, Nat.reduceBEq, Bool.false_or, Bool.or_false, Bool.true_or, Int.reduceToNat, s_iload, s_lload, s_aload, s_istore, s_astore, s_lstore, s_iconst, s_sipush, s_aconst_null, s_iadd, s_isub, s_imul, s_iand, s_ior, s_ixor, s_idiv, s_irem, s_ishl, s_ishr, s_iushr, s_ladd, s_lsub, s_land, s_lor, s_lxor, s_lneg, s_lshl, s_lshr, s_lushr, s_i2l, s_l2i, s_lcmp, s_dup, s_pop, s_dup2, s_i2c, s_i2s, s_monitorenter, s_ifCond, s_if_icmp, s_ifnull, s_goto, s_iinc, s_tableswitch, s_ireturn, s_freturn, s_lreturn, s_areturn, s_return_, s_ldc, s_getfield, s_putfield, s_iaload, s_iastore, s_laload, s_lastore, s_baload, s_bastore, s_aaload, s_aastore, s_arraylength, s_newarray, s_anewarray, s_new, s_invokestatic, s_invokespecial, s_invokevirtual, fvl_0, fvl_1, fvl_2, fvl_3, fp_0, fp_1, fp_2, fp_3, rf_s, rf_n, isRf_b, knw_b, isLg_b, popA_0, popA_s, st1_0, st1_s, st2_e, set_0, set_s, aftC_e, hxP_s, hxP_n, iteF, iteT, bft, im_t, im_f, nt_f, nt_t, Nat.reduceDiv, Nat.reduceMod, Nat.reduceLeDiff, Nat.reduceLT, Nat.reduceEqDiff, List.length_cons, List.length_nil, Nat.zero_add, Nat.reduceSub, List.cons_append, List.nil_append, ak_i, az_i, ar_i, al_i, ai_i, ak_l, az_l, ar_l, al_l, ai_l, ak_r, az_r, ar_r, al_r, ai_r, pk_m1, reduceCtorEq, msk_tb, mskL, Bool.and_eq_true, decide_eq_true_eq, lg_0, lg_t, lg_g, lg_e, lg_l, tb_z, Nat.mod_eq_of_lt, lN_1s, and_ze, brT, brF, brN, vpT, a4095, a63, nI_e, nI_l', nI_t', dif_z, and_z, and_zr, lN_e, nI_clamp, nx_shr, Nat.reducePow, bI_0, bI_1, bI_z, bI_o, bI_or, n01, nI_add, pk_mul, nx_and, nx_or, nx_dif, lx_and, lx_or, lx_dif, Bool.not_eq_true, Bool.not_eq_false, Bool.true_eq_false, Bool.false_eq_true, tb_mod, nt1, nx_bit, nx_or]
        refine And.intro (fun e2 => ?_) fun e2 => ?_
        · refine ih e _ ?_
          rw [hz]
          exact msk_nt e (bP_of ⟨(y2 k).mp e1, (w2 a).mp e2⟩)
        · refine ih e _ ?_
          rw [Nat.or_zero, hz]
          exact msk_nf (bP_no fun q => by rw [(w2 a).mpr q.2] at e2; cases e2)
      · refine ih e _ ?_
        rw [Nat.or_zero, hz]
        exact msk_nf (bP_no fun q => by rw [(y2 k).mpr q.1] at e1; cases e1)
    · have : k = P_n P := by omega
      subst this
      refine wx_sound (S := [22]) 60 true _ _ _ _ ?_
      simp +contextual (disch := omega) only [K147, wx_t, wx_g, wJ_t, wJ_f, wI_s, CI, CL, C01, aftC_v, aftC_n, true_or, or_true, true_and, and_true, inS_n, inS_c, pI_c, pL_c, pA_c, pV_c, pE_c, pQ_s, pQ_n, pQ_r, cm_eq', cm_ne', cm_lt', cm_ge', cm_gt', cm_le', List.getD_cons_zero, List.getD_cons_succ, Nat.reduceAdd, Nat.reduceBEq, Bool.false_or, Bool.or_false, Bool.true_or, Int.reduceToNat, s_iload, s_lload, s_aload, s_istore, s_astore, s_lstore, s_iconst, s_sipush, s_aconst_null, s_iadd, s_isub, s_imul, s_iand, s_ior, s_ixor, s_idiv, s_irem, s_ishl, s_ishr, s_iushr, s_ladd, s_lsub, s_land, s_lor, s_lxor, s_lneg, s_lshl, s_lshr, s_lushr, s_i2l, s_l2i, s_lcmp, s_dup, s_pop, s_dup2, s_i2c, s_i2s, s_monitorenter, s_ifCond, s_if_icmp, s_ifnull, s_goto, s_iinc, s_tableswitch, s_ireturn, s_freturn, s_lreturn, s_areturn, s_return_, s_ldc, s_getfield, s_putfield, s_iaload, s_iastore, s_laload, s_lastore, s_baload, s_bastore, s_aaload, s_aastore, s_arraylength, s_newarray, s_anewarray, s_new, s_invokestatic, s_invokespecial, s_invokevirtual, fvl_0, fvl_1, fvl_2, fvl_3, fp_0, fp_1, fp_2, fp_3, rf_s, rf_n, isRf_b, knw_b, isLg_b, popA_0, popA_s, st1_0, st1_s, st2_e, set_0, set_s, aftC_e, hxP_s, hxP_n, iteF, iteT, bft, im_t, im_f, nt_f, nt_t, Nat.reduceDiv, Nat.reduceMod, Nat.reduceLeDiff, Nat.reduceLT, Nat.reduceEqDiff, List.length_cons, List.length_nil, Nat.zero_add, Nat.reduceSub, List.cons_append, List.nil_append, ak_i, az_i, ar_i, al_i, ai_i, ak_l, az_l, ar_l, al_l, ai_l, ak_r, az_r, ar_r, al_r, ai_r, pk_m1, reduceCtorEq, msk_tb, mskL, Bool.and_eq_true, decide_eq_true_eq, lg_0, lg_t, lg_g, lg_e, lg_l, tb_z, Nat.mod_eq_of_lt, lN_1s, and_ze, brT, brF, brN, vpT, a4095, a63, nI_e, nI_l', nI_t', dif_z, and_z, and_zr, lN_e, nI_clamp, nx_shr, Nat.reducePow, bI_0, bI_1, bI_z, bI_o, bI_or, n01, nI_add, pk_mul, nx_and, nx_or, nx_dif, lx_and, lx_or, lx_dif, Bool.not_eq_true, Bool.not_eq_false, Bool.true_eq_false, Bool.false_eq_true, ss_49 c1.1, c1.f.1]
      rw [hz, msk_nd (Nat.le_refl _), ← lop_e q0.1.2.2, ← hQ]
      exact ⟨rfl, r0⟩
  simp +contextual (disch := omega) only [K147, wx_t, wx_g, wJ_t, wJ_f, wI_s, CI, CL, C01, aftC_v, aftC_n, true_or, or_true, true_and, and_true, inS_n, inS_c, pI_c, pL_c, pA_c, pV_c, pE_c, pQ_s, pQ_n, pQ_r, cm_eq', cm_ne', cm_lt', cm_ge', cm_gt', cm_le', List.getD_cons_zero, List.getD_cons_succ, Nat.reduceAdd, Nat.reduceBEq, Bool.false_or, Bool.or_false, Bool.true_or, Int.reduceToNat, s_iload, s_lload, s_aload, s_istore, s_astore, s_lstore, s_iconst, s_sipush, s_aconst_null, s_iadd, s_isub, s_imul, s_iand, s_ior, s_ixor, s_idiv, s_irem, s_ishl, s_ishr, s_iushr, s_ladd, s_lsub, s_land, s_lor, s_lxor, s_lneg, s_lshl, s_lshr, s_lushr, s_i2l, s_l2i, s_lcmp, s_dup, s_pop, s_dup2, s_i2c, s_i2s, s_monitorenter, s_ifCond, s_if_icmp, s_ifnull, s_goto, s_iinc, s_tableswitch, s_ireturn, s_freturn, s_lreturn, s_areturn, s_return_, s_ldc, s_getfield, s_putfield, s_iaload, s_iastore, s_laload, s_lastore, s_baload, s_bastore, s_aaload, s_aastore, s_arraylength, s_newarray, s_anewarray, s_new, s_invokestatic, s_invokespecial, s_invokevirtual, fvl_0, fvl_1, fvl_2, fvl_3, fp_0, fp_1, fp_2, fp_3, rf_s, rf_n, isRf_b, knw_b, isLg_b, popA_0, popA_s, st1_0, st1_s, st2_e, set_0, set_s, aftC_e, hxP_s, hxP_n, iteF, iteT, bft, im_t, im_f, nt_f, nt_t, Nat.reduceDiv, Nat.reduceMod, Nat.reduceLeDiff, Nat.reduceLT, Nat.reduceEqDiff, List.length_cons, List.length_nil, Nat.zero_add, Nat.reduceSub, List.cons_append, List.nil_append, ak_i, az_i, ar_i, al_i, ai_i, ak_l, az_l, ar_l, al_l, ai_l, ak_r, az_r, ar_r, al_r, ai_r, pk_m1, reduceCtorEq, msk_tb, mskL, Bool.and_eq_true, decide_eq_true_eq, lg_0, lg_t, lg_g, lg_e, lg_l, tb_z, Nat.mod_eq_of_lt, lN_1s, and_ze, brT, brF, brN, vpT, a4095, a63, nI_e, nI_l', nI_t', dif_z, and_z, and_zr, lN_e, nI_clamp, nx_shr, Nat.reducePow, bI_0, bI_1, bI_z, bI_o, bI_or, n01, nI_add, pk_mul, nx_and, nx_or, nx_dif, lx_and, lx_or, lx_dif, Bool.not_eq_true, Bool.not_eq_false, Bool.true_eq_false, Bool.false_eq_true]
  exact lp 0 (Nat.zero_le _) 0 msk_n0
end MDL
