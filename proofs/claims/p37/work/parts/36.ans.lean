/-! AN ANSWER, IN THE CLASS -/
theorem EX.fr {h h' : AH} {S : Nat → Nat → Prop} {n A T F : Nat} (x : EX h n A T F) (f : FR h h' S) (n27 : ∀ k, ¬ S 27 k) : EX h' n A T F := by
  unfold EX at *
  simp only [f.ki n27]
  exact x
def ans (P : PG) (T F s : Nat) : Prop := dif T s = 0 ∧ msk (P_m P) (usat P s) = 0 ∧ lst P T F s ∧ chd P (Hd P (hl P s)) = true
theorem x44 {h h' : AH} {n A T F : Nat} (x : EX h n A T F) (f : FR h h' S44) : EX h' n A T F := x.fr f fun _ e => absurd (show 27 = 44 from e) (by decide)
theorem CP.h60 {h : AH} {P : PG} (c : CP h P) (s : Nat) : hl P s < 2 ^ 62 := Nat.lt_trans (c.mp _) (by decide)
section CLS
variable {sc : (Nat → Int32) × Nat} {d : Nat} {h : AH} {Q : Rs → AH → Prop} {P : PG}
theorem d_240 (c : CP h P) {A T F s : Nat} (x : EX h (P_n P) A T F) (hs : s < 2 ^ P_n P) : TC sc (d + 4) 240 [.ref 45, .int (nI s)] h fun q h' => q = .inl (some (.int (bI (bP (ans P T F s))))) ∧ FR h h' S44 := by
  have := c.m
  have hT : T < 2 ^ 31 := by have := x.2.2.2.2.1; have := c.pn; omega
  generalize hQ : (fun (q : Rs) (h' : AH) => q = .inl (some (.int (bI (bP (ans P T F s))))) ∧ FR h h' S44) = Q
  have no : ¬ ans P T F s → Q (.inl (some (.int (nI 0)))) h := fun n => by rw [← hQ]; exact ⟨by rw [bP_no n]; rfl, FR.refl h _⟩
  refine TC_e (ls := [.ref 45, .int (nI s)]) (Nat.le_of_ble_eq_true rfl) rfl (wx_sound (S := []) 60 true _ _ _ _ ?_)
  simp +contextual (disch := omega) only [K240, wx_t, wx_g, wJ_t, wJ_f, wI_s, CI, CL, C01, aftC_v, aftC_n, true_or, or_true, true_and, and_true, inS_n, inS_c, pI_c, pL_c, pA_c, pV_c, pE_c, pQ_s, pQ_n, pQ_r, cm_eq', cm_ne', cm_lt', cm_ge', cm_gt', cm_le', List.getD_cons_zero, List.getD_cons_succ, Nat.reduceAdd, Nat.reduceBEq, Bool.false_or, Bool.or_false, Bool.true_or, Int.reduceToNat, s_iload, s_lload, s_aload, s_istore, s_astore, s_lstore, s_iconst, s_sipush, s_aconst_null, s_iadd, s_isub, s_imul, s_iand, s_ior, s_ixor, s_idiv, s_irem, s_ishl, s_ishr, s_iushr, s_ladd, s_lsub, s_land, s_lor, s_lxor, s_lneg, s_lshl, s_lshr, s_lushr, s_i2l, s_l2i, s_lcmp, s_dup, s_pop, s_dup2, s_i2c, s_i2s, s_monitorenter, s_ifCond, s_if_icmp, s_ifnull, s_goto, s_iinc, s_tableswitch, s_ireturn, s_freturn, s_lreturn, s_areturn, s_return_, s_ldc, s_getfield, s_putfield, s_iaload, s_iastore, s_laload, s_lastore, s_baload, s_bastore, s_aaload, s_aastore, s_arraylength, s_newarray, s_anewarray, s_new, s_invokestatic, s_invokespecial, s_invokevirtual, fvl_0, fvl_1, fvl_2, fvl_3, fp_0, fp_1, fp_2, fp_3, rf_s, rf_n, isRf_b, knw_b, isLg_b, popA_0, popA_s, st1_0, st1_s, st2_e, set_0, set_s, aftC_e, hxP_s, hxP_n, iteF, iteT, bft, im_t, im_f, nt_f, nt_t, Nat.reduceDiv, Nat.reduceMod, Nat.reduceLeDiff, Nat.reduceLT, Nat.reduceEqDiff, List.length_cons, List.length_nil, Nat.zero_add, Nat.reduceSub, List.cons_append, List.nil_append, ak_i, az_i, ar_i, al_i, ai_i, ak_l, az_l, ar_l, al_l, ai_l, ak_r, az_r, ar_r, al_r, ai_r, pk_m1, reduceCtorEq, msk_tb, mskL, Bool.and_eq_true, decide_eq_true_eq, lg_0, lg_t, lg_g, lg_e, lg_l, tb_z, Nat.mod_eq_of_lt, lN_1s, and_ze, brT, brF, brN, vpT, a4095, a63, nI_e, nI_l', nI_t', dif_z, and_z, and_zr, lN_e, nI_clamp, nx_shr, Nat.reducePow, bI_0, bI_1, bI_z, bI_o, bI_or, n01, nI_add, pk_mul, nx_and, nx_or, nx_dif, lx_and, lx_or, lx_dif, Bool.not_eq_true, Bool.not_eq_false, Bool.true_eq_false, Bool.false_eq_true, ss_0 c.1, ss_19 c.1, ss_23 c.1, ss_27 c.1, ss_28 c.1, ss_31 c.1, ss_43 c.1, ss_45 c.1, ss_46 c.1, ss_49 c.1, x.2.1, d_222 c hs, d_241 c x hs, d_220 c hs, bP_t, bP_f]
  refine And.intro (fun e1 => And.intro (fun e2 => And.intro (fun e3 => ?_) fun e3 => no fun z => e3 z.2.2.1) fun e2 => no fun z => e2 z.2.1) fun e1 => no fun z => e1 z.1
  refine TC_mono (d_152 c (c.h60 s)) ?_
  rintro q h' ⟨rfl, f, -⟩
  simp +contextual (disch := omega) only [K240, wx_t, wx_g, wJ_t, wJ_f, wI_s, CI, CL, C01, aftC_v, aftC_n, true_or, or_true, true_and, and_true, inS_n, inS_c, pI_c, pL_c, pA_c, pV_c, pE_c, pQ_s, pQ_n, pQ_r, cm_eq', cm_ne', cm_lt', cm_ge', cm_gt', cm_le', List.getD_cons_zero, List.getD_cons_succ, Nat.reduceAdd, Nat.reduceBEq, Bool.false_or, Bool.or_false, Bool.true_or, Int.reduceToNat, s_iload, s_lload, s_aload, s_istore, s_astore, s_lstore, s_iconst, s_sipush, s_aconst_null, s_iadd, s_isub, s_imul, s_iand, s_ior, s_ixor, s_idiv, s_irem, s_ishl, s_ishr, s_iushr, s_ladd, s_lsub, s_land, s_lor, s_lxor, s_lneg, s_lshl, s_lshr, s_lushr, s_i2l, s_l2i, s_lcmp, s_dup, s_pop, s_dup2, s_i2c, s_i2s, s_monitorenter, s_ifCond, s_if_icmp, s_ifnull, s_goto, s_iinc, s_tableswitch, s_ireturn, s_freturn, s_lreturn, s_areturn, s_return_, s_ldc, s_getfield, s_putfield, s_iaload, s_iastore, s_laload, s_lastore, s_baload, s_bastore, s_aaload, s_aastore, s_arraylength, s_newarray, s_anewarray, s_new, s_invokestatic, s_invokespecial, s_invokevirtual, fvl_0, fvl_1, fvl_2, fvl_3, fp_0, fp_1, fp_2, fp_3, rf_s, rf_n, isRf_b, knw_b, isLg_b, popA_0, popA_s, st1_0, st1_s, st2_e, set_0, set_s, aftC_e, hxP_s, hxP_n, iteF, iteT, bft, im_t, im_f, nt_f, nt_t, Nat.reduceDiv, Nat.reduceMod, Nat.reduceLeDiff, Nat.reduceLT, Nat.reduceEqDiff, List.length_cons, List.length_nil, Nat.zero_add, Nat.reduceSub, List.cons_append, List.nil_append, ak_i, az_i, ar_i, al_i, ai_i, ak_l, az_l, ar_l, al_l, ai_l, ak_r, az_r, ar_r, al_r, ai_r, pk_m1, reduceCtorEq, msk_tb, mskL, Bool.and_eq_true, decide_eq_true_eq, lg_0, lg_t, lg_g, lg_e, lg_l, tb_z, Nat.mod_eq_of_lt, lN_1s, and_ze, brT, brF, brN, vpT, a4095, a63, nI_e, nI_l', nI_t', dif_z, and_z, and_zr, lN_e, nI_clamp, nx_shr, Nat.reducePow, bI_0, bI_1, bI_z, bI_o, bI_or, n01, nI_add, pk_mul, nx_and, nx_or, nx_dif, lx_and, lx_or, lx_dif, Bool.not_eq_true, Bool.not_eq_false, Bool.true_eq_false, Bool.false_eq_true, bI_or]
  rw [← hQ]
  refine And.intro (fun e4 => ⟨?_, f⟩) fun e4 => ⟨?_, f⟩
  · rw [bP_no fun z => by rw [z.2.2.2] at e4; cases e4]; rfl
  · rw [bP_of ⟨e1, e2, e3, e4⟩]; rfl
/-- an instance that hinders alone -/
theorem iso_pow {x : Nat} : (¬ x = 0 ∧ x &&& (x - 1) = 0) ↔ ∃ i, x = 2 ^ i := by
  constructor
  · rintro ⟨h0, h⟩
    induction x using Nat.strongRecOn with
    | _ x ih =>
      have h2 := congrArg (· / 2) h
      simp only [Nat.and_div_two] at h2
      by_cases e : x % 2 = 0
      · have e2 : (x - 1) / 2 = x / 2 - 1 := by omega
        rw [e2] at h2
        obtain ⟨i, hi⟩ := ih (x / 2) (by omega) (by omega) h2
        exact ⟨i + 1, by rw [Nat.pow_succ]; omega⟩
      · have e2 : (x - 1) / 2 = x / 2 := by omega
        rw [e2, Nat.and_self] at h2
        exact ⟨0, by omega⟩
  · rintro ⟨i, rfl⟩
    refine ⟨Nat.ne_of_gt (Nat.two_pow_pos i), Nat.eq_of_testBit_eq fun j => ?_⟩
    rw [Nat.testBit_and, tb_pow, Nat.testBit_two_pow_sub_one, Nat.zero_testBit]
    by_cases e : i = j
    · subst e; simp
    · simp [e]
/-- without which single one of them does a hindrance stay: i is not its only one -/
def oth (x i : Nat) : Prop := ∃ j, j ≠ i ∧ x.testBit j = true
theorem oth_z {i : Nat} : ¬ oth 0 i := fun ⟨j, _, h⟩ => by rw [Nat.zero_testBit] at h; cases h
theorem oth_p {k i : Nat} : oth (2 ^ k) i ↔ i ≠ k := by
  constructor
  · rintro ⟨j, h1, h2⟩ rfl
    rw [tb_pow] at h2
    exact h1 (of_decide_eq_true h2).symm
  · exact fun h => ⟨k, fun e => h e.symm, by rw [tb_pow]; simp⟩
theorem oth_m {x i : Nat} (h0 : x ≠ 0) (h : ¬ ∃ k, x = 2 ^ k) : oth x i := by
  apply Classical.byContradiction
  intro no
  apply h
  have a : ∀ j, j ≠ i → x.testBit j = false := fun j hj => by
    cases e : x.testBit j
    · rfl
    · exact (no ⟨j, hj, e⟩).elim
  refine ⟨i, Nat.eq_of_testBit_eq fun j => ?_⟩
  rw [tb_pow]
  by_cases e : i = j
  · subst e
    cases q : x.testBit i
    · refine (h0 (Nat.eq_of_testBit_eq fun j => ?_)).elim
      rw [Nat.zero_testBit]
      by_cases e : j = i
      · subst e; exact q
      · exact a j e
    · simp
  · rw [a j (fun z => e z.symm)]; simp [e]
/-- what is left of the spared after a hindrance -/
theorem hw_e (y x : Nat) (hx : x < 2 ^ 62) : ∃ z, (∀ i, z.testBit i = (y.testBit i && bP (oth x i))) ∧ lN y &&& (if x = 0 then lN 0 else if (decide (¬ x = 0) && decide (x &&& (x - 1) = 0)) = true then lN x ^^^ (-1) else -1) = lN z := by
  by_cases h0 : x = 0
  · subst h0
    refine ⟨0, fun i => ?_, ?_⟩
    · rw [bP_no oth_z, Nat.zero_testBit, Bool.and_false]
    · rw [if_pos rfl, lx_and, Nat.and_zero]
  · rw [if_neg h0]
    by_cases h1 : (decide (¬ x = 0) && decide (x &&& (x - 1) = 0)) = true
    · rw [if_pos h1]
      have h2 : ¬ x = 0 ∧ x &&& (x - 1) = 0 := by simpa using h1
      obtain ⟨k, rfl⟩ := iso_pow.mp h2
      refine ⟨dif y (2 ^ k), fun i => ?_, lx_dif _ _⟩
      rw [dif_tb, tb_pow, bP_c oth_p]
      by_cases e : k = i
      · subst e; simp [bP_no]
      · rw [bP_of (fun z => e z.symm)]; simp [e]
    · rw [if_neg h1]
      have h2 : ¬ ∃ k, x = 2 ^ k := fun z => h1 (by simpa using iso_pow.mpr z)
      refine ⟨y, fun i => ?_, lx_m1 _⟩
      rw [bP_of (oth_m h0 h2), Bool.and_true]
end CLS
