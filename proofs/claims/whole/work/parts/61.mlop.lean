/-! THE REFERENCE: LOOPS, UNFOUNDED -/
/-- the needs of those whose heads meet, one by one, with those found so far -/
def nxt (P : PG) (x f : Nat) : Nat → Nat
  | 0 => f
  | i + 1 => if P_hd P i &&& (x ||| nxt P x f i) = 0 then nxt P x f i else nxt P x f i ||| P_nd P i
theorem nxt_lt {P : PG} (o : P_ok P) {x f : Nat} (hf : f < 2 ^ P_n P) : ∀ k, k ≤ P_m P → nxt P x f k < 2 ^ P_n P
  | 0, _ => hf
  | k + 1, hk => by
    have := nxt_lt o (x := x) hf k (by omega)
    have := (o.2.2 k (by omega)).2.1
    rw [nxt]; split
    · assumption
    · exact or_lt (by assumption) (by assumption)
theorem nxt_ge {P : PG} {x f i : Nat} (h : f.testBit i = true) : ∀ k, (nxt P x f k).testBit i = true
  | 0 => h
  | k + 1 => by
    rw [nxt]; split
    · exact nxt_ge h k
    · rw [Nat.testBit_or, nxt_ge h k]; rfl
/-- hangs on -/
def HO (P : PG) (a b : Nat) : Prop := ∀ z, (∀ i, i < P_m P → P_hd P i &&& (2 ^ a ||| z) ≠ 0 → ∀ j, (P_nd P i).testBit j = true → z.testBit j = true) → z.testBit b = true
theorem ne_z {x y i : Nat} (h1 : x.testBit i = true) (h2 : y.testBit i = true) : x &&& y ≠ 0 := fun h => by
  have := congrArg (fun z => z.testBit i) h
  simp [h1, h2] at this
theorem ne_ex {x y : Nat} (h : x &&& y ≠ 0) : ∃ i, x.testBit i = true ∧ y.testBit i = true := by
  apply Classical.byContradiction
  intro n
  refine h (Nat.eq_of_testBit_eq fun i => ?_)
  rw [Nat.testBit_and, Nat.zero_testBit]
  cases e1 : x.testBit i
  · rfl
  · cases e2 : y.testBit i
    · rfl
    · exact (n ⟨i, e1, e2⟩).elim
/-- what is found stays below what is closed -/
theorem nxt_le {P : PG} {a f z : Nat} (cz : ∀ i, i < P_m P → P_hd P i &&& (2 ^ a ||| z) ≠ 0 → ∀ j, (P_nd P i).testBit j = true → z.testBit j = true) (hf : ∀ j, f.testBit j = true → z.testBit j = true) : ∀ k, k ≤ P_m P → ∀ j, (nxt P (2 ^ a) f k).testBit j = true → z.testBit j = true
  | 0, _ => hf
  | k + 1, hk => by
    have ih := nxt_le cz hf k (by omega)
    intro j hj
    rw [nxt] at hj
    by_cases e : P_hd P k &&& (2 ^ a ||| nxt P (2 ^ a) f k) = 0
    · rw [if_pos e] at hj; exact ih j hj
    · rw [if_neg e, Nat.testBit_or, Bool.or_eq_true] at hj
      rcases hj with hj | hj
      · exact ih j hj
      · obtain ⟨i, h1, h2⟩ := ne_ex e
        rw [Nat.testBit_or, Bool.or_eq_true] at h2
        refine cz k (by omega) (ne_z h1 (i := i) ?_) j hj
        rw [Nat.testBit_or, Bool.or_eq_true]
        exact h2.imp id (ih i)
/-- a round that finds nothing more: closed -/
theorem nxt_fix {P : PG} {x f : Nat} (h : nxt P x f (P_m P) = f) : ∀ i, i < P_m P → P_hd P i &&& (x ||| f) ≠ 0 → ∀ j, (P_nd P i).testBit j = true → f.testBit j = true := by
  have up : ∀ k l, k ≤ l → ∀ j, (nxt P x f k).testBit j = true → (nxt P x f l).testBit j = true := by
    intro k l hl j hj
    induction l with
    | zero => rw [Nat.le_zero.mp hl] at hj; exact hj
    | succ l ih =>
      by_cases e : k = l + 1
      · rw [← e]; exact hj
      · have := ih (by omega)
        rw [nxt]; split
        · exact this
        · rw [Nat.testBit_or, this]; rfl
  intro i hi h1 j hj
  have h2 : (nxt P x f (i + 1)).testBit j = true := by
    rw [nxt, if_neg, Nat.testBit_or, hj, Bool.or_true]
    obtain ⟨b, b1, b2⟩ := ne_ex h1
    rw [Nat.testBit_or, Bool.or_eq_true] at b2
    refine ne_z b1 ?_
    rw [Nat.testBit_or, Bool.or_eq_true]
    exact b2.imp id fun z => nxt_ge z i
  have := up (i + 1) (P_m P) hi j h2
  rw [h] at this
  exact this
theorem pop_slt {g f : Nat} (h : ∀ i, g.testBit i = true → f.testBit i = true) {j : Nat} (h1 : f.testBit j = true) (h2 : g.testBit j = false) : ∀ {n : Nat}, j < n → pop g n < pop f n
  | 0, hj => absurd hj (by omega)
  | n + 1, hj => by
    rw [pop_s, pop_s]
    by_cases e : j = n
    · subst e
      have := pop_sub (n := j) h
      rw [h1, h2]; simp; omega
    · have := pop_slt h h1 h2 (n := n) (by omega)
      have := h n
      cases e : g.testBit n
      · simp; omega
      · rw [this e]; simp; omega
section MDL
variable {sc : (Nat → Int32) × Nat} {d : Nat} {h : AH} {Q : Rs → AH → Prop} {P : PG} {A T F : Nat}
theorem m_146 (c : MP h P) {a : Nat} (ha : a < P_n P) : TC sc (d + 1) 146 [.ref 49, .int (nI (2 ^ a))] h fun q h' => h' = h ∧ ∃ y : Nat, q = .inl (some (.int (nI y))) ∧ y < 2 ^ P_n P ∧ ∀ b, y.testBit b = true ↔ HO P a b := by
  have n12 := c.n
  have m60 := c.m
  have pn := c.pn
  generalize hQ : (fun (q : Rs) (h' : AH) => h' = h ∧ ∃ y : Nat, q = .inl (some (.int (nI y))) ∧ y < 2 ^ P_n P ∧ ∀ b, y.testBit b = true ↔ HO P a b) = Q
  have inn : ∀ f, f < 2 ^ P_n P → (TT sc d 146 Q 4 [.ref 49, .int (nI (2 ^ a)), .int (nI (nxt P (2 ^ a) f (P_m P))), .int (nI f), .int (nI (P_m P))] [] h) → ∀ k, k ≤ P_m P → TT sc d 146 Q 11 [.ref 49, .int (nI (2 ^ a)), .int (nI (nxt P (2 ^ a) f k)), .int (nI f), .int (nI k)] [] h := by
    intro f hf K
    refine up_to fun k hk ih => ?_
    by_cases e : k < P_m P
    · have ih := ih e
      rw [nxt] at ih
      have hd := c.hd e
      have az := and_z (a := P_hd P k) (b := 2 ^ a ||| nxt P (2 ^ a) f k) (by omega)
      refine wx_sound (S := [4, 11]) 60 true _ _ _ _ ?_
      simp +contextual (disch := omega) only [K146, wx_t, wx_g, wJ_t, wJ_f, wI_s, CI, CL, C01, aftC_v, aftC_n, true_or, or_true, true_and, and_true, inS_n, inS_c, pI_c, pL_c, pA_c, pV_c, pE_c, pQ_s, pQ_n, pQ_r, cm_eq', cm_ne', cm_lt', cm_ge', cm_gt', cm_le', List.getD_cons_zero, List.getD_cons_succ, Nat.reduceAdd, Nat.reduceBEq, Bool.false_or, Bool.or_false, Bool.true_or, Int.reduceToNat, s_iload, s_lload, s_aload, s_istore, s_astore, s_lstore, s_iconst, s_sipush, s_aconst_null, s_iadd, s_isub, s_imul, s_iand, s_ior, s_ixor, s_idiv, s_irem, s_ishl, s_ishr, s_iushr, s_ladd, s_lsub, s_land, s_lor, s_lxor, s_lneg, s_lshl, s_lshr, s_lushr, s_i2l, s_l2i, s_lcmp, s_dup, s_pop, s_dup2, s_i2c, s_i2s, s_monitorenter, s_ifCond, s_if_icmp, s_ifnull, s_goto, s_iinc, s_tableswitch, s_ireturn, s_freturn, s_lreturn, s_areturn, s_return_, s_ldc, s_getfield, s_putfield, s_iaload, s_iastore, s_laload, s_lastore, s_baload, s_bastore, s_aaload, s_aastore, s_arraylength, s_newarray, s_anewarray, s_new, s_invokestatic, s_invokespecial, s_invokevirtual, fvl_0, fvl_1, fvl_2, fvl_3, fp_0, fp_1, fp_2, fp_3, rf_s, rf_n, isRf_b, knw_b, isLg_b, popA_0, popA_s, st1_0, st1_s, st2_e, set_0, set_s, aftC_e, hxP_s, hxP_n, iteF, iteT, bft, im_t, im_f, nt_f, nt_t, Nat.reduceDiv, Nat.reduceMod, Nat.reduceLeDiff, Nat.reduceLT, Nat.reduceEqDiff, List.length_cons, List.length_nil, Nat.zero_add, Nat.reduceSub, List.cons_append, List.nil_append, ak_i, az_i, ar_i, al_i, ai_i, ak_l, az_l, ar_l, al_l, ai_l, ak_r, az_r, ar_r, al_r, ai_r, pk_m1, reduceCtorEq, msk_tb, mskL, Bool.and_eq_true, decide_eq_true_eq, lg_0, lg_t, lg_g, lg_e, lg_l, tb_z, Nat.mod_eq_of_lt, lN_1s, and_ze, brT, brF, brN, vpT, a4095, a63, nI_e, nI_l', nI_t', dif_z, and_z, and_zr, lN_e, nI_clamp, nx_shr, Nat.reducePow, bI_0, bI_1, bI_z, bI_o, bI_or, n01, nI_add, pk_mul, nx_and, nx_or, nx_dif, lx_and, lx_or, lx_dif, Bool.not_eq_true, Bool.not_eq_false, Bool.true_eq_false, Bool.false_eq_true, ss_49 c.1, c.f.2, (c.i e).2.1, (c.i e).2.2.1, nx_or, az, Nat.or_zero]
      refine And.intro (fun e1 => ?_) fun e1 => ?_
      · rw [if_pos e1] at ih; exact ih
      · rw [if_neg e1] at ih; exact ih
    · have : k = P_m P := by omega
      subst this
      refine wx_sound (S := [4, 11]) 60 true _ _ _ _ ?_
      simp +contextual (disch := omega) only [K146, wx_t, wx_g, wJ_t, wJ_f, wI_s, CI, CL, C01, aftC_v, aftC_n, true_or, or_true, true_and, and_true, inS_n, inS_c, pI_c, pL_c, pA_c, pV_c, pE_c, pQ_s, pQ_n, pQ_r, cm_eq', cm_ne', cm_lt', cm_ge', cm_gt', cm_le', List.getD_cons_zero, List.getD_cons_succ, Nat.reduceAdd, Nat.reduceBEq, Bool.false_or, Bool.or_false, Bool.true_or, Int.reduceToNat, s_iload, s_lload, s_aload, s_istore, s_astore, s_lstore, s_iconst, s_sipush, s_aconst_null, s_iadd, s_isub, s_imul, s_iand, s_ior, s_ixor, s_idiv, s_irem, s_ishl, s_ishr, s_iushr, s_ladd, s_lsub, s_land, s_lor, s_lxor, s_lneg, s_lshl, s_lshr, s_lushr, s_i2l, s_l2i, s_lcmp, s_dup, s_pop, s_dup2, s_i2c, s_i2s, s_monitorenter, s_ifCond, s_if_icmp, s_ifnull, s_goto, s_iinc, s_tableswitch, s_ireturn, s_freturn, s_lreturn, s_areturn, s_return_, s_ldc, s_getfield, s_putfield, s_iaload, s_iastore, s_laload, s_lastore, s_baload, s_bastore, s_aaload, s_aastore, s_arraylength, s_newarray, s_anewarray, s_new, s_invokestatic, s_invokespecial, s_invokevirtual, fvl_0, fvl_1, fvl_2, fvl_3, fp_0, fp_1, fp_2, fp_3, rf_s, rf_n, isRf_b, knw_b, isLg_b, popA_0, popA_s, st1_0, st1_s, st2_e, set_0, set_s, aftC_e, hxP_s, hxP_n, iteF, iteT, bft, im_t, im_f, nt_f, nt_t, Nat.reduceDiv, Nat.reduceMod, Nat.reduceLeDiff, Nat.reduceLT, Nat.reduceEqDiff, List.length_cons, List.length_nil, Nat.zero_add, Nat.reduceSub, List.cons_append, List.nil_append, ak_i, az_i, ar_i, al_i, ai_i, ak_l, az_l, ar_l, al_l, ai_l, ak_r, az_r, ar_r, al_r, ai_r, pk_m1, reduceCtorEq, msk_tb, mskL, Bool.and_eq_true, decide_eq_true_eq, lg_0, lg_t, lg_g, lg_e, lg_l, tb_z, Nat.mod_eq_of_lt, lN_1s, and_ze, brT, brF, brN, vpT, a4095, a63, nI_e, nI_l', nI_t', dif_z, and_z, and_zr, lN_e, nI_clamp, nx_shr, Nat.reducePow, bI_0, bI_1, bI_z, bI_o, bI_or, n01, nI_add, pk_mul, nx_and, nx_or, nx_dif, lx_and, lx_or, lx_dif, Bool.not_eq_true, Bool.not_eq_false, Bool.true_eq_false, Bool.false_eq_true, ss_49 c.1, c.f.2]
      exact K
  have out : ∀ n f had, (had = -1 ∧ 14 ≤ n ∨ ∃ g : Nat, had = nI g ∧ g < 2 ^ P_n P ∧ f = nxt P (2 ^ a) g (P_m P) ∧ 13 - pop g 12 ≤ n) → f < 2 ^ P_n P → (∀ b, f.testBit b = true → HO P a b) → ∀ x, TT sc d 146 Q 4 [.ref 49, .int (nI (2 ^ a)), .int (nI f), .int had, x] [] h := by
    intro n
    induction n with
    | zero =>
      rintro f had (⟨-, h⟩ | ⟨g, -, -, -, h⟩) _ _ _
      · exact absurd h (by omega)
      · have := pop_le g 12
        exact absurd h (by omega)
    | succ n ih =>
      intro f had hd hf H x
      have go : 13 - pop f 12 ≤ n → TT sc d 146 Q 11 [.ref 49, .int (nI (2 ^ a)), .int (nI (nxt P (2 ^ a) f 0)), .int (nI f), .int (nI 0)] [] h := fun l =>
        inn f hf (ih _ _ (Or.inr ⟨f, rfl, hf, rfl, l⟩) (nxt_lt c.2.2 hf _ (Nat.le_refl _)) (fun b hb z cz => nxt_le cz (fun j hj => H j hj z cz) _ (Nat.le_refl _) b hb) _) 0 (Nat.zero_le _)
      rcases hd with ⟨rfl, l⟩ | ⟨g, rfl, hg, e, l⟩
      · have nf : (-1 = nI f) = False := eq_false fun z => n_m1 (by omega) z.symm
        refine wx_sound (S := [4, 11]) 60 true _ _ _ _ ?_
        simp +contextual (disch := omega) only [K146, wx_t, wx_g, wJ_t, wJ_f, wI_s, CI, CL, C01, aftC_v, aftC_n, true_or, or_true, true_and, and_true, inS_n, inS_c, pI_c, pL_c, pA_c, pV_c, pE_c, pQ_s, pQ_n, pQ_r, cm_eq', cm_ne', cm_lt', cm_ge', cm_gt', cm_le', List.getD_cons_zero, List.getD_cons_succ, Nat.reduceAdd, Nat.reduceBEq, Bool.false_or, Bool.or_false, Bool.true_or, Int.reduceToNat, s_iload, s_lload, s_aload, s_istore, s_astore, s_lstore, s_iconst, s_sipush, s_aconst_null, s_iadd, s_isub, s_imul, s_iand, s_ior, s_ixor, s_idiv, s_irem, s_ishl, s_ishr, s_iushr, s_ladd, s_lsub, s_land, s_lor, s_lxor, s_lneg, s_lshl, s_lshr, s_lushr, s_i2l, s_l2i, s_lcmp, s_dup, s_pop, s_dup2, s_i2c, s_i2s, s_monitorenter, s_ifCond, s_if_icmp, s_ifnull, s_goto, s_iinc, s_tableswitch, s_ireturn, s_freturn, s_lreturn, s_areturn, s_return_, s_ldc, s_getfield, s_putfield, s_iaload, s_iastore, s_laload, s_lastore, s_baload, s_bastore, s_aaload, s_aastore, s_arraylength, s_newarray, s_anewarray, s_new, s_invokestatic, s_invokespecial, s_invokevirtual, fvl_0, fvl_1, fvl_2, fvl_3, fp_0, fp_1, fp_2, fp_3, rf_s, rf_n, isRf_b, knw_b, isLg_b, popA_0, popA_s, st1_0, st1_s, st2_e, set_0, set_s, aftC_e, hxP_s, hxP_n, iteF, iteT, bft, im_t, im_f, nt_f, nt_t, Nat.reduceDiv, Nat.reduceMod, Nat.reduceLeDiff, Nat.reduceLT, Nat.reduceEqDiff, List.length_cons, List.length_nil, Nat.zero_add, Nat.reduceSub, List.cons_append, List.nil_append, ak_i, az_i, ar_i, al_i, ai_i, ak_l, az_l, ar_l, al_l, ai_l, ak_r, az_r, ar_r, al_r, ai_r, pk_m1, reduceCtorEq, msk_tb, mskL, Bool.and_eq_true, decide_eq_true_eq, lg_0, lg_t, lg_g, lg_e, lg_l, tb_z, Nat.mod_eq_of_lt, lN_1s, and_ze, brT, brF, brN, vpT, a4095, a63, nI_e, nI_l', nI_t', dif_z, and_z, and_zr, lN_e, nI_clamp, nx_shr, Nat.reducePow, bI_0, bI_1, bI_z, bI_o, bI_or, n01, nI_add, pk_mul, nx_and, nx_or, nx_dif, lx_and, lx_or, lx_dif, Bool.not_eq_true, Bool.not_eq_false, Bool.true_eq_false, Bool.false_eq_true, ss_49 c.1, nf]
        exact go (by omega)
      · refine wx_sound (S := [4, 11]) 60 true _ _ _ _ ?_
        simp +contextual (disch := omega) only [K146, wx_t, wx_g, wJ_t, wJ_f, wI_s, CI, CL, C01, aftC_v, aftC_n, true_or, or_true, true_and, and_true, inS_n, inS_c, pI_c, pL_c, pA_c, pV_c, pE_c, pQ_s, pQ_n, pQ_r, cm_eq', cm_ne', cm_lt', cm_ge', cm_gt', cm_le', List.getD_cons_zero, List.getD_cons_succ, Nat.reduceAdd, Nat.reduceBEq, Bool.false_or, Bool.or_false, Bool.true_or, Int.reduceToNat, s_iload, s_lload, s_aload, s_istore, s_astore, s_lstore, s_iconst, s_sipush, s_aconst_null, s_iadd, s_isub, s_imul, s_iand, s_ior, s_ixor, s_idiv, s_irem, s_ishl, s_ishr, s_iushr, s_ladd, s_lsub, s_land, s_lor, s_lxor, s_lneg, s_lshl, s_lshr, s_lushr, s_i2l, s_l2i, s_lcmp, s_dup, s_pop, s_dup2, s_i2c, s_i2s, s_monitorenter, s_ifCond, s_if_icmp, s_ifnull, s_goto, s_iinc, s_tableswitch, s_ireturn, s_freturn, s_lreturn, s_areturn, s_return_, s_ldc, s_getfield, s_putfield, s_iaload, s_iastore, s_laload, s_lastore, s_baload, s_bastore, s_aaload, s_aastore, s_arraylength, s_newarray, s_anewarray, s_new, s_invokestatic, s_invokespecial, s_invokevirtual, fvl_0, fvl_1, fvl_2, fvl_3, fp_0, fp_1, fp_2, fp_3, rf_s, rf_n, isRf_b, knw_b, isLg_b, popA_0, popA_s, st1_0, st1_s, st2_e, set_0, set_s, aftC_e, hxP_s, hxP_n, iteF, iteT, bft, im_t, im_f, nt_f, nt_t, Nat.reduceDiv, Nat.reduceMod, Nat.reduceLeDiff, Nat.reduceLT, Nat.reduceEqDiff, List.length_cons, List.length_nil, Nat.zero_add, Nat.reduceSub, List.cons_append, List.nil_append, ak_i, az_i, ar_i, al_i, ai_i, ak_l, az_l, ar_l, al_l, ai_l, ak_r, az_r, ar_r, al_r, ai_r, pk_m1, reduceCtorEq, msk_tb, mskL, Bool.and_eq_true, decide_eq_true_eq, lg_0, lg_t, lg_g, lg_e, lg_l, tb_z, Nat.mod_eq_of_lt, lN_1s, and_ze, brT, brF, brN, vpT, a4095, a63, nI_e, nI_l', nI_t', dif_z, and_z, and_zr, lN_e, nI_clamp, nx_shr, Nat.reducePow, bI_0, bI_1, bI_z, bI_o, bI_or, n01, nI_add, pk_mul, nx_and, nx_or, nx_dif, lx_and, lx_or, lx_dif, Bool.not_eq_true, Bool.not_eq_false, Bool.true_eq_false, Bool.false_eq_true, ss_49 c.1]
        refine And.intro (fun q => ?_) fun q => ?_
        · rw [← hQ]
          refine ⟨rfl, f, rfl, hf, fun b => ⟨H b, fun z => z f (nxt_fix ?_)⟩⟩
          rw [← q, ← e, q]
        · refine go ?_
          have sub : ∀ i, g.testBit i = true → f.testBit i = true := fun i hi => by rw [e]; exact nxt_ge hi _
          obtain ⟨j, j1, j2⟩ : ∃ j, f.testBit j = true ∧ g.testBit j = false := by
            apply Classical.byContradiction
            intro no
            refine q (Nat.eq_of_testBit_eq fun i => ?_)
            cases e1 : g.testBit i
            · cases e2 : f.testBit i
              · rfl
              · exact (no ⟨i, e2, e1⟩).elim
            · exact (sub i e1).symm
          have j12 : j < 12 := by
            rcases Nat.lt_or_ge j 12 with z | z
            · exact z
            · rw [tb_ge (n := 12) (by omega) z] at j1; cases j1
          have := pop_slt sub j1 j2 j12
          omega
  refine TC_e (ls := [.ref 49, .int (nI (2 ^ a)), unk, unk, unk]) (Nat.le_of_ble_eq_true rfl) rfl (wx_sound (S := [4, 11]) 60 true _ _ _ _ ?_)
  simp +contextual (disch := omega) only [K146, wx_t, wx_g, wJ_t, wJ_f, wI_s, CI, CL, C01, aftC_v, aftC_n, true_or, or_true, true_and, and_true, inS_n, inS_c, pI_c, pL_c, pA_c, pV_c, pE_c, pQ_s, pQ_n, pQ_r, cm_eq', cm_ne', cm_lt', cm_ge', cm_gt', cm_le', List.getD_cons_zero, List.getD_cons_succ, Nat.reduceAdd, Nat.reduceBEq, Bool.false_or, Bool.or_false, Bool.true_or, Int.reduceToNat, s_iload, s_lload, s_aload, s_istore, s_astore, s_lstore, s_iconst, s_sipush, s_aconst_null, s_iadd, s_isub, s_imul, s_iand, s_ior, s_ixor, s_idiv, s_irem, s_ishl, s_ishr, s_iushr, s_ladd, s_lsub, s_land, s_lor, s_lxor, s_lneg, s_lshl, s_lshr, s_lushr, s_i2l, s_l2i, s_lcmp, s_dup, s_pop, s_dup2, s_i2c, s_i2s, s_monitorenter, s_ifCond, s_if_icmp, s_ifnull, s_goto, s_iinc, s_tableswitch, s_ireturn, s_freturn, s_lreturn, s_areturn, s_return_, s_ldc, s_getfield, s_putfield, s_iaload, s_iastore, s_laload, s_lastore, s_baload, s_bastore, s_aaload, s_aastore, s_arraylength, s_newarray, s_anewarray, s_new, s_invokestatic, s_invokespecial, s_invokevirtual, fvl_0, fvl_1, fvl_2, fvl_3, fp_0, fp_1, fp_2, fp_3, rf_s, rf_n, isRf_b, knw_b, isLg_b, popA_0, popA_s, st1_0, st1_s, st2_e, set_0, set_s, aftC_e, hxP_s, hxP_n, iteF, iteT, bft, im_t, im_f, nt_f, nt_t, Nat.reduceDiv, Nat.reduceMod, Nat.reduceLeDiff, Nat.reduceLT, Nat.reduceEqDiff, List.length_cons, List.length_nil, Nat.zero_add, Nat.reduceSub, List.cons_append, List.nil_append, ak_i, az_i, ar_i, al_i, ai_i, ak_l, az_l, ar_l, al_l, ai_l, ak_r, az_r, ar_r, al_r, ai_r, pk_m1, reduceCtorEq, msk_tb, mskL, Bool.and_eq_true, decide_eq_true_eq, lg_0, lg_t, lg_g, lg_e, lg_l, tb_z, Nat.mod_eq_of_lt, lN_1s, and_ze, brT, brF, brN, vpT, a4095, a63, nI_e, nI_l', nI_t', dif_z, and_z, and_zr, lN_e, nI_clamp, nx_shr, Nat.reducePow, bI_0, bI_1, bI_z, bI_o, bI_or, n01, nI_add, pk_mul, nx_and, nx_or, nx_dif, lx_and, lx_or, lx_dif, Bool.not_eq_true, Bool.not_eq_false, Bool.true_eq_false, Bool.false_eq_true]
  refine out 14 0 (-1) (Or.inl ⟨rfl, Nat.le_refl _⟩) (Nat.two_pow_pos _) (fun b hb => ?_) unk
  rw [Nat.zero_testBit] at hb
  cases hb
end MDL
