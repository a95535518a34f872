/-! THE SEARCH AND ITS KEEPING -/
noncomputable def aset (P : PG) (T F : Nat) : Nat → Bool := fun s => decide (s < 2 ^ P_n P) && bP (ans P T F s)
def cl3 (P : PG) (s t : Nat) : Nat → Int32
  | 0 => nI 0
  | k + 1 => if cst P s (nI k) (P_m P) < cst P t (nI k) (P_m P) then -1 else if cst P s (nI k) (P_m P) = cst P t (nI k) (P_m P) then cl3 P s t k else nI 1
/-- c is the first of the cheapest below k -/
def chpst (P : PG) (f : Nat → Bool) (k : Nat) (c : Int32) : Prop := (c = -1 ∧ ∀ s, s < k → f s = false) ∨ ∃ x : Nat, c = nI x ∧ x < k ∧ f x = true ∧ ∀ s, s < k → f s = true → ¬ cl3 P s x 3 < nI 0
def CHP (h : AH) (P : PG) (T F : Nat) : Prop := (ah_i h 0 14 = nI 0 ∧ ah_i h 0 15 = -1) ∨ (ah_i h 0 14 = nI 1 ∧ chpst P (aset P T F) 4096 (ah_i h 0 15))
def SRC (h : AH) (P : PG) (T F : Nat) : Prop := ah_i h 0 13 = nI 1 ∧ FD h 47 (aset P T F) ∧ ah_i h 46 2 = nI (cnt (aset P T F) 4096) ∧ CHP h P T F
def CSH (h : AH) (P : PG) (T F : Nat) : Prop := ah_i h 0 13 = nI 0 ∨ SRC h P T F
def SQ : Nat → Nat → Prop := fun a k => a = 44 ∨ S46 a k ∨ a = 48 ∨ a = 0 ∧ 13 ≤ k
def QS (h : AH) (P : PG) (A T F : Nat) : Prop := CP h P ∧ EX h (P_n P) A T F ∧ ah_i h 19 1 = nI (P_n P) ∧ CSH h P T F
theorem cnt_ext {f : Nat → Bool} {a : Nat} (h : ∀ i, a ≤ i → f i = false) : ∀ {b : Nat}, a ≤ b → cnt f b = cnt f a
  | 0, hb => by rw [Nat.le_zero.mp hb]
  | b + 1, hb => by
    by_cases e : a = b + 1
    · rw [e]
    · rw [cnt_s, cnt_ext h (b := b) (by omega), h b (by omega)]; rfl
theorem aset_ge {P : PG} {T F i : Nat} (h : 2 ^ P_n P ≤ i) : aset P T F i = false := by
  unfold aset
  have : ¬ i < 2 ^ P_n P := by omega
  simp [this]
theorem aset_lt {P : PG} {T F i : Nat} (h : i < 2 ^ P_n P) : aset P T F i = bP (ans P T F i) := by
  unfold aset
  simp [h]
theorem sq_44 : ∀ a k, S44 a k → SQ a k := fun _ _ e => Or.inl e
theorem sq_46 : ∀ a k, S46 a k → SQ a k := fun _ _ e => Or.inr (Or.inl e)
theorem sq_48 : ∀ a k, S48 a k → SQ a k := fun _ _ e => Or.inr (Or.inr (Or.inl e))
theorem sq_no {a : Nat} (h0 : a ≠ 0) (h1 : a ≠ 44) (h2 : a ≠ 46) (h3 : a ≠ 47) (h4 : a ≠ 48) : ∀ k, ¬ SQ a k := fun k e => by
  rcases e with e | e | e | e
  · exact h1 e
  · rcases e with e | e
    · exact h2 e.1
    · exact h3 e
  · exact h4 e
  · exact h0 e.1
theorem sq_ko {h : AH} (hp : SHP h) : ∀ a k, SQ a k → ah_k h a ≠ 5 ∧ ah_k h a ≠ 10 := fun a k e => by
  have e0 := ss_0 hp
  have e43 := ss_43 hp
  have e46 := ss_46 hp
  rcases e with e | e | e | e
  · subst e; rw [e43.2.2.1]; decide
  · rcases e with e | e
    · rw [e.1, e46.1]; decide
    · subst e; rw [e46.2.2.2.1]; decide
  · subst e; rw [e46.2.2.2.2.2.1]; decide
  · rw [e.1, e0.1]; decide
theorem CP.fq {h h' : AH} {P : PG} (c : CP h P) (f : FR h h' SQ) : CP h' P :=
  c.fr f (sq_ko c.1) (sq_no (by decide) (by decide) (by decide) (by decide) (by decide)) (sq_no (by decide) (by decide) (by decide) (by decide) (by decide)) (sq_no (by decide) (by decide) (by decide) (by decide) (by decide)) (sq_no (by decide) (by decide) (by decide) (by decide) (by decide)) (sq_no (by decide) (by decide) (by decide) (by decide) (by decide)) (sq_no (by decide) (by decide) (by decide) (by decide) (by decide)) (sq_no (by decide) (by decide) (by decide) (by decide) (by decide)) (sq_no (by decide) (by decide) (by decide) (by decide) (by decide))
theorem EX.fq {h h' : AH} {n A T F : Nat} (x : EX h n A T F) (f : FR h h' SQ) : EX h' n A T F := x.fr f (sq_no (by decide) (by decide) (by decide) (by decide) (by decide))
theorem FD.fr {h h' : AH} {S : Nat → Nat → Prop} {a : Nat} {g : Nat → Bool} (x : FD h a g) (f : FR h h' S) (n : ∀ k, ¬ S a k) : FD h' a g := fun r hr => by rw [f.kl n]; exact x r hr
section CLS
variable {sc : (Nat → Int32) × Nat} {d : Nat} {h : AH} {Q : Rs → AH → Prop} {P : PG} {A T F : Nat}
theorem d_48 (q0 : QS h P A T F) : TC sc (d + 5) 48 [.ref 0] h fun q h' => q = .inl none ∧ FR h h' SQ ∧ QS h' P A T F ∧ SRC h' P T F := by
  obtain ⟨c, x, g0, cs⟩ := q0
  have pn := c.pn
  generalize hQ : (fun (q : Rs) (h' : AH) => q = .inl none ∧ FR h h' SQ ∧ QS h' P A T F ∧ SRC h' P T F) = Q
  rcases cs with cs | cs
  · have lp : ∀ k, k ≤ 2 ^ P_n P → ∀ h', FR h h' SQ → FD h' 47 (fun s => decide (s < k) && aset P T F s) → ah_i h' 46 2 = nI (cnt (aset P T F) k) → ah_i h' 0 14 = nI 0 → ah_i h' 0 15 = -1 → TT sc (d + 4) 48 Q 14 [.ref 0, .int (nI k)] [] h' := by
      refine up_to fun k hk ih => ?_
      intro h' fr g1 g2 g3 g4
      have c' := c.fq fr
      have x' := x.fq fr
      by_cases e : k < 2 ^ P_n P
      · refine wx_sound (S := [14]) 60 true _ _ _ _ ?_
        simp +contextual (disch := omega) only [K48, wx_t, wx_g, wJ_t, wJ_f, wI_s, CI, CL, C01, aftC_v, aftC_n, true_or, or_true, true_and, and_true, inS_n, inS_c, pI_c, pL_c, pA_c, pV_c, pE_c, pQ_s, pQ_n, pQ_r, cm_eq', cm_ne', cm_lt', cm_ge', cm_gt', cm_le', List.getD_cons_zero, List.getD_cons_succ, Nat.reduceAdd, Nat.reduceBEq, Bool.false_or, Bool.or_false, Bool.true_or, Int.reduceToNat, s_iload, s_lload, s_aload, s_istore, s_astore, s_lstore, s_iconst, s_sipush, s_aconst_null, s_iadd, s_isub, s_imul, s_iand, s_ior, s_ixor, s_idiv, s_irem, s_ishl, s_ishr, s_iushr, s_ladd, s_lsub, s_land, s_lor, s_lxor, s_lneg, s_lshl, s_lshr, s_lushr, s_i2l, s_l2i, s_lcmp, s_dup, s_pop, s_dup2, s_i2c, s_i2s, s_monitorenter, s_ifCond, s_if_icmp, s_ifnull, s_goto, s_iinc, s_tableswitch, s_ireturn, s_freturn, s_lreturn, s_areturn, s_return_, s_ldc, s_getfield, s_putfield, s_iaload, s_iastore, s_laload, s_lastore, s_baload, s_bastore, s_aaload, s_aastore, s_arraylength, s_newarray, s_anewarray, s_new, s_invokestatic, s_invokespecial, s_invokevirtual, fvl_0, fvl_1, fvl_2, fvl_3, fp_0, fp_1, fp_2, fp_3, rf_s, rf_n, isRf_b, knw_b, isLg_b, popA_0, popA_s, st1_0, st1_s, st2_e, set_0, set_s, aftC_e, hxP_s, hxP_n, iteF, iteT, bft, im_t, im_f, nt_f, nt_t, Nat.reduceDiv, Nat.reduceMod, Nat.reduceLeDiff, Nat.reduceLT, Nat.reduceEqDiff, List.length_cons, List.length_nil, Nat.zero_add, Nat.reduceSub, List.cons_append, List.nil_append, ak_i, az_i, ar_i, al_i, ai_i, ak_l, az_l, ar_l, al_l, ai_l, ak_r, az_r, ar_r, al_r, ai_r, pk_m1, reduceCtorEq, msk_tb, mskL, Bool.and_eq_true, decide_eq_true_eq, lg_0, lg_t, lg_g, lg_e, lg_l, tb_z, Nat.mod_eq_of_lt, lN_1s, and_ze, brT, brF, brN, vpT, a4095, a63, nI_e, nI_l', nI_t', dif_z, and_z, and_zr, lN_e, nI_clamp, nx_shr, Nat.reducePow, bI_0, bI_1, bI_z, bI_o, bI_or, n01, nI_add, pk_mul, nx_and, nx_or, nx_dif, lx_and, lx_or, lx_dif, Bool.not_eq_true, Bool.not_eq_false, Bool.true_eq_false, Bool.false_eq_true, ss_0 c'.1, ss_19 c'.1, ss_23 c'.1, ss_27 c'.1, ss_28 c'.1, ss_31 c'.1, ss_43 c'.1, ss_45 c'.1, ss_46 c'.1, ss_49 c'.1, d_203 c']
        refine TC_mono (d_240 c' x' e) ?_
        rintro q h2 ⟨rfl, f2⟩
        have f3 := fr.trans f2 sq_44
        have c2 := c.fq f3
        have x2 := x.fq f3
        have a46 : ∀ k, ah_i h2 46 k = ah_i h' 46 k := f2.ki fun _ e => absurd (show 46 = 44 from e) (by decide)
        have a0 : ∀ k, ah_i h2 0 k = ah_i h' 0 k := f2.ki fun _ e => absurd (show 0 = 44 from e) (by decide)
        have fd2 := g1.fr f2 fun _ e => absurd (show 47 = 44 from e) (by decide)
        have al := aset_lt (P := P) (T := T) (F := F) e
        simp +contextual (disch := omega) only [K48, wx_t, wx_g, wJ_t, wJ_f, wI_s, CI, CL, C01, aftC_v, aftC_n, true_or, or_true, true_and, and_true, inS_n, inS_c, pI_c, pL_c, pA_c, pV_c, pE_c, pQ_s, pQ_n, pQ_r, cm_eq', cm_ne', cm_lt', cm_ge', cm_gt', cm_le', List.getD_cons_zero, List.getD_cons_succ, Nat.reduceAdd, Nat.reduceBEq, Bool.false_or, Bool.or_false, Bool.true_or, Int.reduceToNat, s_iload, s_lload, s_aload, s_istore, s_astore, s_lstore, s_iconst, s_sipush, s_aconst_null, s_iadd, s_isub, s_imul, s_iand, s_ior, s_ixor, s_idiv, s_irem, s_ishl, s_ishr, s_iushr, s_ladd, s_lsub, s_land, s_lor, s_lxor, s_lneg, s_lshl, s_lshr, s_lushr, s_i2l, s_l2i, s_lcmp, s_dup, s_pop, s_dup2, s_i2c, s_i2s, s_monitorenter, s_ifCond, s_if_icmp, s_ifnull, s_goto, s_iinc, s_tableswitch, s_ireturn, s_freturn, s_lreturn, s_areturn, s_return_, s_ldc, s_getfield, s_putfield, s_iaload, s_iastore, s_laload, s_lastore, s_baload, s_bastore, s_aaload, s_aastore, s_arraylength, s_newarray, s_anewarray, s_new, s_invokestatic, s_invokespecial, s_invokevirtual, fvl_0, fvl_1, fvl_2, fvl_3, fp_0, fp_1, fp_2, fp_3, rf_s, rf_n, isRf_b, knw_b, isLg_b, popA_0, popA_s, st1_0, st1_s, st2_e, set_0, set_s, aftC_e, hxP_s, hxP_n, iteF, iteT, bft, im_t, im_f, nt_f, nt_t, Nat.reduceDiv, Nat.reduceMod, Nat.reduceLeDiff, Nat.reduceLT, Nat.reduceEqDiff, List.length_cons, List.length_nil, Nat.zero_add, Nat.reduceSub, List.cons_append, List.nil_append, ak_i, az_i, ar_i, al_i, ai_i, ak_l, az_l, ar_l, al_l, ai_l, ak_r, az_r, ar_r, al_r, ai_r, pk_m1, reduceCtorEq, msk_tb, mskL, Bool.and_eq_true, decide_eq_true_eq, lg_0, lg_t, lg_g, lg_e, lg_l, tb_z, Nat.mod_eq_of_lt, lN_1s, and_ze, brT, brF, brN, vpT, a4095, a63, nI_e, nI_l', nI_t', dif_z, and_z, and_zr, lN_e, nI_clamp, nx_shr, Nat.reducePow, bI_0, bI_1, bI_z, bI_o, bI_or, n01, nI_add, pk_mul, nx_and, nx_or, nx_dif, lx_and, lx_or, lx_dif, Bool.not_eq_true, Bool.not_eq_false, Bool.true_eq_false, Bool.false_eq_true, ss_0 c2.1, ss_46 c2.1]
        refine And.intro (fun e4 => ?_) fun e4 => ?_
        · rw [e4] at al
          refine ih (by omega) _ f3 ?_ ?_ (by rw [a0]; exact g3) (by rw [a0]; exact g4)
          · have : (fun s => decide (s < k + 1) && aset P T F s) = fun s => decide (s < k) && aset P T F s := funext fun s => by
              by_cases q : s = k
              · subst q; simp [al]
              · rw [dlt q]
            rw [this]; exact fd2
          · rw [a46, g2, cnt_s, al]; rfl
        · rw [e4] at al
          refine TC_mono (d_180 c2.1 fd2 (s := k) (Nat.lt_of_lt_of_le e pn)) ?_
          rintro q h4 ⟨rfl, f4, g5, g6⟩
          have f5 := f3.trans f4 sq_46
          simp +contextual (disch := omega) only [K48, wx_t, wx_g, wJ_t, wJ_f, wI_s, CI, CL, C01, aftC_v, aftC_n, true_or, or_true, true_and, and_true, inS_n, inS_c, pI_c, pL_c, pA_c, pV_c, pE_c, pQ_s, pQ_n, pQ_r, cm_eq', cm_ne', cm_lt', cm_ge', cm_gt', cm_le', List.getD_cons_zero, List.getD_cons_succ, Nat.reduceAdd, Nat.reduceBEq, Bool.false_or, Bool.or_false, Bool.true_or, Int.reduceToNat, s_iload, s_lload, s_aload, s_istore, s_astore, s_lstore, s_iconst, s_sipush, s_aconst_null, s_iadd, s_isub, s_imul, s_iand, s_ior, s_ixor, s_idiv, s_irem, s_ishl, s_ishr, s_iushr, s_ladd, s_lsub, s_land, s_lor, s_lxor, s_lneg, s_lshl, s_lshr, s_lushr, s_i2l, s_l2i, s_lcmp, s_dup, s_pop, s_dup2, s_i2c, s_i2s, s_monitorenter, s_ifCond, s_if_icmp, s_ifnull, s_goto, s_iinc, s_tableswitch, s_ireturn, s_freturn, s_lreturn, s_areturn, s_return_, s_ldc, s_getfield, s_putfield, s_iaload, s_iastore, s_laload, s_lastore, s_baload, s_bastore, s_aaload, s_aastore, s_arraylength, s_newarray, s_anewarray, s_new, s_invokestatic, s_invokespecial, s_invokevirtual, fvl_0, fvl_1, fvl_2, fvl_3, fp_0, fp_1, fp_2, fp_3, rf_s, rf_n, isRf_b, knw_b, isLg_b, popA_0, popA_s, st1_0, st1_s, st2_e, set_0, set_s, aftC_e, hxP_s, hxP_n, iteF, iteT, bft, im_t, im_f, nt_f, nt_t, Nat.reduceDiv, Nat.reduceMod, Nat.reduceLeDiff, Nat.reduceLT, Nat.reduceEqDiff, List.length_cons, List.length_nil, Nat.zero_add, Nat.reduceSub, List.cons_append, List.nil_append, ak_i, az_i, ar_i, al_i, ai_i, ak_l, az_l, ar_l, al_l, ai_l, ak_r, az_r, ar_r, al_r, ai_r, pk_m1, reduceCtorEq, msk_tb, mskL, Bool.and_eq_true, decide_eq_true_eq, lg_0, lg_t, lg_g, lg_e, lg_l, tb_z, Nat.mod_eq_of_lt, lN_1s, and_ze, brT, brF, brN, vpT, a4095, a63, nI_e, nI_l', nI_t', dif_z, and_z, and_zr, lN_e, nI_clamp, nx_shr, Nat.reducePow, bI_0, bI_1, bI_z, bI_o, bI_or, n01, nI_add, pk_mul, nx_and, nx_or, nx_dif, lx_and, lx_or, lx_dif, Bool.not_eq_true, Bool.not_eq_false, Bool.true_eq_false, Bool.false_eq_true]
          have b0 : ∀ k, ah_i h4 0 k = ah_i h2 0 k := f4.ki fun _ e => by rcases e with e | e <;> simp at e
          refine ih (by omega) _ f5 ?_ ?_ (by rw [b0, a0]; exact g3) (by rw [b0, a0]; exact g4)
          · have : (fun s => decide (s < k + 1) && aset P T F s) = fun x => decide (x = k) || (decide (x < k) && aset P T F x) := funext fun s => by
              by_cases q : s = k
              · subst q; simp [al]
              · rw [dlt q]; simp [q]
            rw [this]; exact g5
          · rw [g6, a46, g2, nI_add, cnt_s, al]; rfl
      · have : k = 2 ^ P_n P := by omega
        subst this
        refine wx_sound (S := [14]) 60 true _ _ _ _ ?_
        simp +contextual (disch := omega) only [K48, wx_t, wx_g, wJ_t, wJ_f, wI_s, CI, CL, C01, aftC_v, aftC_n, true_or, or_true, true_and, and_true, inS_n, inS_c, pI_c, pL_c, pA_c, pV_c, pE_c, pQ_s, pQ_n, pQ_r, cm_eq', cm_ne', cm_lt', cm_ge', cm_gt', cm_le', List.getD_cons_zero, List.getD_cons_succ, Nat.reduceAdd, Nat.reduceBEq, Bool.false_or, Bool.or_false, Bool.true_or, Int.reduceToNat, s_iload, s_lload, s_aload, s_istore, s_astore, s_lstore, s_iconst, s_sipush, s_aconst_null, s_iadd, s_isub, s_imul, s_iand, s_ior, s_ixor, s_idiv, s_irem, s_ishl, s_ishr, s_iushr, s_ladd, s_lsub, s_land, s_lor, s_lxor, s_lneg, s_lshl, s_lshr, s_lushr, s_i2l, s_l2i, s_lcmp, s_dup, s_pop, s_dup2, s_i2c, s_i2s, s_monitorenter, s_ifCond, s_if_icmp, s_ifnull, s_goto, s_iinc, s_tableswitch, s_ireturn, s_freturn, s_lreturn, s_areturn, s_return_, s_ldc, s_getfield, s_putfield, s_iaload, s_iastore, s_laload, s_lastore, s_baload, s_bastore, s_aaload, s_aastore, s_arraylength, s_newarray, s_anewarray, s_new, s_invokestatic, s_invokespecial, s_invokevirtual, fvl_0, fvl_1, fvl_2, fvl_3, fp_0, fp_1, fp_2, fp_3, rf_s, rf_n, isRf_b, knw_b, isLg_b, popA_0, popA_s, st1_0, st1_s, st2_e, set_0, set_s, aftC_e, hxP_s, hxP_n, iteF, iteT, bft, im_t, im_f, nt_f, nt_t, Nat.reduceDiv, Nat.reduceMod, Nat.reduceLeDiff, Nat.reduceLT, Nat.reduceEqDiff, List.length_cons, List.length_nil, Nat.zero_add, Nat.reduceSub, List.cons_append, List.nil_append, ak_i, az_i, ar_i, al_i, ai_i, ak_l, az_l, ar_l, al_l, ai_l, ak_r, az_r, ar_r, al_r, ai_r, pk_m1, reduceCtorEq, msk_tb, mskL, Bool.and_eq_true, decide_eq_true_eq, lg_0, lg_t, lg_g, lg_e, lg_l, tb_z, Nat.mod_eq_of_lt, lN_1s, and_ze, brT, brF, brN, vpT, a4095, a63, nI_e, nI_l', nI_t', dif_z, and_z, and_zr, lN_e, nI_clamp, nx_shr, Nat.reducePow, bI_0, bI_1, bI_z, bI_o, bI_or, n01, nI_add, pk_mul, nx_and, nx_or, nx_dif, lx_and, lx_or, lx_dif, Bool.not_eq_true, Bool.not_eq_false, Bool.true_eq_false, Bool.false_eq_true, ss_0 c'.1, ss_19 c'.1, ss_23 c'.1, ss_27 c'.1, ss_28 c'.1, ss_31 c'.1, ss_43 c'.1, ss_45 c'.1, ss_46 c'.1, ss_49 c'.1, d_203 c']
        have f3 : FR h (ap_i h' 0 13 (nI 1)) SQ := fr.i (Or.inr (Or.inr (Or.inr ⟨rfl, by decide⟩)))
        have s3 : SRC (ap_i h' 0 13 (nI 1)) P T F := by
          refine ⟨by rw [ai_i]; simp, ?_, ?_, Or.inl ⟨?_, ?_⟩⟩
          · have : aset P T F = fun s => decide (s < 2 ^ P_n P) && aset P T F s := funext fun s => by
              unfold aset
              simp
            rw [this]
            intro r hr
            rw [al_i]
            exact g1 r hr
          · rw [ai_i]; simp only [Nat.reduceEqDiff, false_and, if_false]
            rw [g2, cnt_ext (fun i => aset_ge) pn]
          · rw [ai_i]; simp [g3]
          · rw [ai_i]; simp [g4]
        rw [← hQ]
        exact ⟨rfl, f3, ⟨c.fq f3, x.fq f3, by rw [f3.ki (sq_no (by decide) (by decide) (by decide) (by decide) (by decide)), g0], Or.inr s3⟩, s3⟩
    refine TC_e (ls := [.ref 0, unk]) (Nat.le_of_ble_eq_true rfl) rfl (wx_sound (S := [14]) 60 true _ _ _ _ ?_)
    simp +contextual (disch := omega) only [K48, wx_t, wx_g, wJ_t, wJ_f, wI_s, CI, CL, C01, aftC_v, aftC_n, true_or, or_true, true_and, and_true, inS_n, inS_c, pI_c, pL_c, pA_c, pV_c, pE_c, pQ_s, pQ_n, pQ_r, cm_eq', cm_ne', cm_lt', cm_ge', cm_gt', cm_le', List.getD_cons_zero, List.getD_cons_succ, Nat.reduceAdd, Nat.reduceBEq, Bool.false_or, Bool.or_false, Bool.true_or, Int.reduceToNat, s_iload, s_lload, s_aload, s_istore, s_astore, s_lstore, s_iconst, s_sipush, s_aconst_null, s_iadd, s_isub, s_imul, s_iand, s_ior, s_ixor, s_idiv, s_irem, s_ishl, s_ishr, s_iushr, s_ladd, s_lsub, s_land, s_lor, s_lxor, s_lneg, s_lshl, s_lshr, s_lushr, s_i2l, s_l2i, s_lcmp, s_dup, s_pop, s_dup2, s_i2c, s_i2s, s_monitorenter, s_ifCond, s_if_icmp, s_ifnull, s_goto, s_iinc, s_tableswitch, s_ireturn, s_freturn, s_lreturn, s_areturn, s_return_, s_ldc, s_getfield, s_putfield, s_iaload, s_iastore, s_laload, s_lastore, s_baload, s_bastore, s_aaload, s_aastore, s_arraylength, s_newarray, s_anewarray, s_new, s_invokestatic, s_invokespecial, s_invokevirtual, fvl_0, fvl_1, fvl_2, fvl_3, fp_0, fp_1, fp_2, fp_3, rf_s, rf_n, isRf_b, knw_b, isLg_b, popA_0, popA_s, st1_0, st1_s, st2_e, set_0, set_s, aftC_e, hxP_s, hxP_n, iteF, iteT, bft, im_t, im_f, nt_f, nt_t, Nat.reduceDiv, Nat.reduceMod, Nat.reduceLeDiff, Nat.reduceLT, Nat.reduceEqDiff, List.length_cons, List.length_nil, Nat.zero_add, Nat.reduceSub, List.cons_append, List.nil_append, ak_i, az_i, ar_i, al_i, ai_i, ak_l, az_l, ar_l, al_l, ai_l, ak_r, az_r, ar_r, al_r, ai_r, pk_m1, reduceCtorEq, msk_tb, mskL, Bool.and_eq_true, decide_eq_true_eq, lg_0, lg_t, lg_g, lg_e, lg_l, tb_z, Nat.mod_eq_of_lt, lN_1s, and_ze, brT, brF, brN, vpT, a4095, a63, nI_e, nI_l', nI_t', dif_z, and_z, and_zr, lN_e, nI_clamp, nx_shr, Nat.reducePow, bI_0, bI_1, bI_z, bI_o, bI_or, n01, nI_add, pk_mul, nx_and, nx_or, nx_dif, lx_and, lx_or, lx_dif, Bool.not_eq_true, Bool.not_eq_false, Bool.true_eq_false, Bool.false_eq_true, ss_0 c.1, ss_19 c.1, ss_23 c.1, ss_27 c.1, ss_28 c.1, ss_31 c.1, ss_43 c.1, ss_45 c.1, ss_46 c.1, ss_49 c.1, cs]
    refine TC_mono (d_178 c.1) ?_
    rintro q h2 ⟨rfl, f2, g1, g2⟩
    have f3 := f2.mono sq_46
    have c2 := c.fq f3
    simp +contextual (disch := omega) only [K48, wx_t, wx_g, wJ_t, wJ_f, wI_s, CI, CL, C01, aftC_v, aftC_n, true_or, or_true, true_and, and_true, inS_n, inS_c, pI_c, pL_c, pA_c, pV_c, pE_c, pQ_s, pQ_n, pQ_r, cm_eq', cm_ne', cm_lt', cm_ge', cm_gt', cm_le', List.getD_cons_zero, List.getD_cons_succ, Nat.reduceAdd, Nat.reduceBEq, Bool.false_or, Bool.or_false, Bool.true_or, Int.reduceToNat, s_iload, s_lload, s_aload, s_istore, s_astore, s_lstore, s_iconst, s_sipush, s_aconst_null, s_iadd, s_isub, s_imul, s_iand, s_ior, s_ixor, s_idiv, s_irem, s_ishl, s_ishr, s_iushr, s_ladd, s_lsub, s_land, s_lor, s_lxor, s_lneg, s_lshl, s_lshr, s_lushr, s_i2l, s_l2i, s_lcmp, s_dup, s_pop, s_dup2, s_i2c, s_i2s, s_monitorenter, s_ifCond, s_if_icmp, s_ifnull, s_goto, s_iinc, s_tableswitch, s_ireturn, s_freturn, s_lreturn, s_areturn, s_return_, s_ldc, s_getfield, s_putfield, s_iaload, s_iastore, s_laload, s_lastore, s_baload, s_bastore, s_aaload, s_aastore, s_arraylength, s_newarray, s_anewarray, s_new, s_invokestatic, s_invokespecial, s_invokevirtual, fvl_0, fvl_1, fvl_2, fvl_3, fp_0, fp_1, fp_2, fp_3, rf_s, rf_n, isRf_b, knw_b, isLg_b, popA_0, popA_s, st1_0, st1_s, st2_e, set_0, set_s, aftC_e, hxP_s, hxP_n, iteF, iteT, bft, im_t, im_f, nt_f, nt_t, Nat.reduceDiv, Nat.reduceMod, Nat.reduceLeDiff, Nat.reduceLT, Nat.reduceEqDiff, List.length_cons, List.length_nil, Nat.zero_add, Nat.reduceSub, List.cons_append, List.nil_append, ak_i, az_i, ar_i, al_i, ai_i, ak_l, az_l, ar_l, al_l, ai_l, ak_r, az_r, ar_r, al_r, ai_r, pk_m1, reduceCtorEq, msk_tb, mskL, Bool.and_eq_true, decide_eq_true_eq, lg_0, lg_t, lg_g, lg_e, lg_l, tb_z, Nat.mod_eq_of_lt, lN_1s, and_ze, brT, brF, brN, vpT, a4095, a63, nI_e, nI_l', nI_t', dif_z, and_z, and_zr, lN_e, nI_clamp, nx_shr, Nat.reducePow, bI_0, bI_1, bI_z, bI_o, bI_or, n01, nI_add, pk_mul, nx_and, nx_or, nx_dif, lx_and, lx_or, lx_dif, Bool.not_eq_true, Bool.not_eq_false, Bool.true_eq_false, Bool.false_eq_true, ss_0 c2.1]
    refine lp 0 (Nat.zero_le _) _ ((f3.i (Or.inr (Or.inr (Or.inr ⟨rfl, by decide⟩)))).i (Or.inr (Or.inr (Or.inr ⟨rfl, by decide⟩)))) ?_ ?_ ?_ ?_
    · have : (fun s => decide (s < 0) && aset P T F s) = fun _ => false := funext fun s => by simp
      rw [this]
      exact fun r hr => g1 r hr
    · simp [ai_i, g2, cnt]
    · simp [ai_i]
    · simp [ai_i]
  · refine TC_e (ls := [.ref 0, unk]) (Nat.le_of_ble_eq_true rfl) rfl (wx_sound (S := [14]) 60 true _ _ _ _ ?_)
    simp +contextual (disch := omega) only [K48, wx_t, wx_g, wJ_t, wJ_f, wI_s, CI, CL, C01, aftC_v, aftC_n, true_or, or_true, true_and, and_true, inS_n, inS_c, pI_c, pL_c, pA_c, pV_c, pE_c, pQ_s, pQ_n, pQ_r, cm_eq', cm_ne', cm_lt', cm_ge', cm_gt', cm_le', List.getD_cons_zero, List.getD_cons_succ, Nat.reduceAdd, Nat.reduceBEq, Bool.false_or, Bool.or_false, Bool.true_or, Int.reduceToNat, s_iload, s_lload, s_aload, s_istore, s_astore, s_lstore, s_iconst, s_sipush, s_aconst_null, s_iadd, s_isub, s_imul, s_iand, s_ior, s_ixor, s_idiv, s_irem, s_ishl, s_ishr, s_iushr, s_ladd, s_lsub, s_land, s_lor, s_lxor, s_lneg, s_lshl, s_lshr, s_lushr, s_i2l, s_l2i, s_lcmp, s_dup, s_pop, s_dup2, s_i2c, s_i2s, s_monitorenter, s_ifCond, s_if_icmp, s_ifnull, s_goto, s_iinc, s_tableswitch, s_ireturn, s_freturn, s_lreturn, s_areturn, s_return_, s_ldc, s_getfield, s_putfield, s_iaload, s_iastore, s_laload, s_lastore, s_baload, s_bastore, s_aaload, s_aastore, s_arraylength, s_newarray, s_anewarray, s_new, s_invokestatic, s_invokespecial, s_invokevirtual, fvl_0, fvl_1, fvl_2, fvl_3, fp_0, fp_1, fp_2, fp_3, rf_s, rf_n, isRf_b, knw_b, isLg_b, popA_0, popA_s, st1_0, st1_s, st2_e, set_0, set_s, aftC_e, hxP_s, hxP_n, iteF, iteT, bft, im_t, im_f, nt_f, nt_t, Nat.reduceDiv, Nat.reduceMod, Nat.reduceLeDiff, Nat.reduceLT, Nat.reduceEqDiff, List.length_cons, List.length_nil, Nat.zero_add, Nat.reduceSub, List.cons_append, List.nil_append, ak_i, az_i, ar_i, al_i, ai_i, ak_l, az_l, ar_l, al_l, ai_l, ak_r, az_r, ar_r, al_r, ai_r, pk_m1, reduceCtorEq, msk_tb, mskL, Bool.and_eq_true, decide_eq_true_eq, lg_0, lg_t, lg_g, lg_e, lg_l, tb_z, Nat.mod_eq_of_lt, lN_1s, and_ze, brT, brF, brN, vpT, a4095, a63, nI_e, nI_l', nI_t', dif_z, and_z, and_zr, lN_e, nI_clamp, nx_shr, Nat.reducePow, bI_0, bI_1, bI_z, bI_o, bI_or, n01, nI_add, pk_mul, nx_and, nx_or, nx_dif, lx_and, lx_or, lx_dif, Bool.not_eq_true, Bool.not_eq_false, Bool.true_eq_false, Bool.false_eq_true, ss_0 c.1, ss_19 c.1, ss_23 c.1, ss_27 c.1, ss_28 c.1, ss_31 c.1, ss_43 c.1, ss_45 c.1, ss_46 c.1, ss_49 c.1, cs.1]
    rw [← hQ]
    exact ⟨rfl, FR.refl h _, ⟨c, x, g0, Or.inr cs⟩, cs⟩
end CLS
