/-! GROUNDING IN THE REFERENCE: TAKEN BACK -/
theorem MG_pop {h : AH} {A I : List Nat} {y : Nat} (g : MG h (A ++ [y]) I) (nd : (A ++ [y]).Nodup) : ah_i h 54 A.length = nI y ∧ y < 600 ∧ MG (ap_i (ap_i h 49 7 (nI A.length)) 53 y (nI 0)) A I := by
  obtain ⟨⟨a1, a2, a3, a4⟩, i1, i2, i3⟩ := g
  have ny : y ∉ A := fun z => (List.nodup_append.mp nd).2.2 y z y (List.mem_singleton.mpr rfl) rfl
  rw [List.length_append, List.length_singleton] at a2
  have ay := a4 A.length (by rw [List.length_append, List.length_singleton]; omega)
  rw [lat_new] at ay
  refine ⟨ay.1, ay.2, ⟨?_, by omega, fun x hx => ?_, fun k hk => ?_⟩, ?_, i2, fun i hi => ?_⟩
  · rw [ai_n (by omega), ai_y]
  · by_cases e : x = y
    · rw [e, ai_y, idx_z.mpr ny]
    · rw [ai_n (by omega), ai_n (by omega), a3 x hx, idx_app ny, if_neg e]
  · rw [ai_n (by omega), ai_n (by omega)]
    have := a4 k (by rw [List.length_append, List.length_singleton]; omega)
    rw [lat_app hk] at this
    exact this
  · rw [ai_n (by omega), ai_n (by omega)]; exact i1
  · rw [ai_n (by omega), ai_n (by omega), ai_n (by omega), ai_n (by omega)]; exact i3 i hi
def SR3 : Nat → Nat → Prop := fun a k => SR2 a k ∨ a = 49 ∧ (k = 5 ∨ k = 0 ∨ k = 21 ∨ k = 22 ∨ k = 23)
section MDL
variable {sc : (Nat → Int32) × Nat} {d : Nat} {h : AH} {A I : List Nat} {m : Nat}
theorem m_101 (hp : SHP h) {B J : List Nat} (g : MG h (A ++ B) (I ++ J)) (nd : (A ++ B).Nodup) (h1 : ah_i h 49 21 = nI A.length) (h2 : ah_i h 49 22 = nI I.length) (h3 : ah_i h 49 23 = nI m) : TC sc (d + 1) 101 [.ref 49] h fun q h' => q = .inl none ∧ FR h h' SR3 ∧ MG h' A I ∧ ah_i h' 49 5 = nI m := by
  generalize hQ : (fun (q : Rs) (h' : AH) => q = .inl none ∧ FR h h' SR3 ∧ MG h' A I ∧ ah_i h' 49 5 = nI m) = Q
  have ss : ∀ h', FR h h' (fun a k => SR1 a k) → ah_i h' 49 21 = nI A.length ∧ ah_i h' 49 22 = nI I.length ∧ ah_i h' 49 23 = nI m := fun h' f => by
    refine ⟨(f.ci fun z => ?_).trans h1, (f.ci fun z => ?_).trans h2, (f.ci fun z => ?_).trans h3⟩ <;> (unfold SR1 at z; omega)
  have lp : ∀ n B h', B.length = n → FR h h' (fun a k => SR1 a k) → MG h' (A ++ B) (I ++ J) → (A ++ B).Nodup → TT sc d 101 Q 0 [.ref 49] [] h' := by
    intro n
    induction n with
    | zero =>
      intro B h' e f g nd
      have hp' := hp.fr f
      obtain ⟨q1, q2, q3⟩ := ss h' f
      have := List.length_eq_zero_iff.mp e
      subst this
      rw [List.append_nil] at g
      have a1 := g.1.1
      have a2 := g.1.2.1
      have z : Q (.inl none) (ap_i (ap_i h' 49 15 (nI I.length)) 49 5 (nI m)) := by
        rw [← hQ]
        refine ⟨rfl, ((f.mono fun a k z => Or.inl (Or.inl z)).i (Or.inl (Or.inl (Or.inr ⟨rfl, Or.inr rfl⟩)))).i (Or.inr ⟨rfl, Or.inl rfl⟩), ?_, ai_y⟩
        obtain ⟨⟨a1, a2, a3, a4⟩, i1, i2, i3⟩ := g
        rw [List.length_append] at i2
        refine ⟨⟨?_, a2, fun x hx => ?_, fun k hk => ?_⟩, ?_, by omega, fun i hi => ?_⟩
        · rw [ai_n (by omega), ai_n (by omega)]; exact a1
        · rw [ai_n (by omega), ai_n (by omega)]; exact a3 x hx
        · rw [ai_n (by omega), ai_n (by omega)]; exact a4 k hk
        · rw [ai_n (by omega), ai_y]
        · rw [ai_n (by omega), ai_n (by omega), ai_n (by omega), ai_n (by omega)]
          have := i3 i (by rw [List.length_append]; omega)
          rw [lat_app hi] at this
          exact this
      refine wx_sound (S := []) 20 true _ _ _ _ ?_
      simp +contextual (disch := omega) only [K101, wx_t, wx_g, wJ_t, wJ_f, wI_s, CI, CL, C01, aftC_v, aftC_n, true_or, or_true, true_and, and_true, inS_n, inS_c, pI_c, pL_c, pA_c, pV_c, pE_c, pQ_s, pQ_n, pQ_r, cm_eq', cm_ne', cm_lt', cm_ge', cm_gt', cm_le', List.getD_cons_zero, List.getD_cons_succ, Nat.reduceAdd, Nat.reduceBEq, Bool.false_or, Bool.or_false, Bool.true_or, Int.reduceToNat, s_iload, s_lload, s_aload, s_istore, s_astore, s_lstore, s_iconst, s_sipush, s_aconst_null, s_iadd, s_isub, s_imul, s_iand, s_ior, s_ixor, s_idiv, s_irem, s_ishl, s_ishr, s_iushr, s_ladd, s_lsub, s_land, s_lor, s_lxor, s_lneg, s_lshl, s_lshr, s_lushr, s_i2l, s_l2i, s_lcmp, s_dup, s_pop, s_dup2, s_i2c, s_i2s, s_monitorenter, s_ifCond, s_if_icmp, s_ifnull, s_goto, s_iinc, s_tableswitch, s_ireturn, s_freturn, s_lreturn, s_areturn, s_return_, s_ldc, s_getfield, s_putfield, s_iaload, s_iastore, s_laload, s_lastore, s_baload, s_bastore, s_aaload, s_aastore, s_arraylength, s_newarray, s_anewarray, s_new, s_invokestatic, s_invokespecial, s_invokevirtual, fvl_0, fvl_1, fvl_2, fvl_3, fp_0, fp_1, fp_2, fp_3, rf_s, rf_n, isRf_b, knw_b, isLg_b, popA_0, popA_s, st1_0, st1_s, st2_e, set_0, set_s, aftC_e, hxP_s, hxP_n, iteF, iteT, bft, im_t, im_f, nt_f, nt_t, Nat.reduceDiv, Nat.reduceMod, Nat.reduceLeDiff, Nat.reduceLT, Nat.reduceEqDiff, List.length_cons, List.length_nil, Nat.zero_add, Nat.reduceSub, List.cons_append, List.nil_append, ak_i, az_i, ar_i, al_i, ai_i, ak_l, az_l, ar_l, al_l, ai_l, ak_r, az_r, ar_r, al_r, ai_r, pk_m1, reduceCtorEq, msk_tb, mskL, Bool.and_eq_true, decide_eq_true_eq, lg_0, lg_t, lg_g, lg_e, lg_l, tb_z, Nat.mod_eq_of_lt, lN_1s, and_ze, brT, brF, brN, vpT, a4095, a63, nI_e, nI_l', nI_t', dif_z, and_z, and_zr, lN_e, nI_clamp, nx_shr, Nat.reducePow, bI_0, bI_1, bI_z, bI_o, bI_or, n01, nI_add, pk_mul, nx_and, nx_or, nx_dif, lx_and, lx_or, lx_dif, Bool.not_eq_true, Bool.not_eq_false, Bool.true_eq_false, Bool.false_eq_true, ss_49 hp', a1, q1, q2, q3]
      exact z
    | succ n ih =>
      intro B h' e f g nd
      have hp' := hp.fr f
      obtain ⟨q1, q2, q3⟩ := ss h' f
      rcases List.eq_nil_or_concat B with e2 | ⟨L, y, e2⟩
      · rw [e2] at e; exact absurd e (by simp)
      · rw [List.concat_eq_append] at e2
        rw [e2, ← List.append_assoc] at g nd
        rw [e2, List.length_append, List.length_singleton] at e
        have a1 := g.1.1
        have a2 := g.1.2.1
        obtain ⟨p1, p2, p3⟩ := MG_pop g nd
        rw [List.length_append, List.length_append, List.length_singleton] at a1 a2
        rw [List.length_append] at p1 p3
        have z := ih L _ (by omega) ((f.i (Or.inr ⟨rfl, Or.inl rfl⟩)).i (Or.inl (by omega))) p3 (List.nodup_append.mp nd).1
        have e3 : nI (A.length + L.length + 1) - nI 1 = nI (A.length + L.length) := pk_sub (by omega)
        have lt : (nI (A.length + L.length + 1) ≤ nI A.length) = False := by rw [nI_l' (by omega) (by omega)]; exact eq_false (by omega)
        refine wx_sound (S := [0]) 60 true _ _ _ _ ?_
        simp +contextual (disch := omega) only [K101, wx_t, wx_g, wJ_t, wJ_f, wI_s, CI, CL, C01, aftC_v, aftC_n, true_or, or_true, true_and, and_true, inS_n, inS_c, pI_c, pL_c, pA_c, pV_c, pE_c, pQ_s, pQ_n, pQ_r, cm_eq', cm_ne', cm_lt', cm_ge', cm_gt', cm_le', List.getD_cons_zero, List.getD_cons_succ, Nat.reduceAdd, Nat.reduceBEq, Bool.false_or, Bool.or_false, Bool.true_or, Int.reduceToNat, s_iload, s_lload, s_aload, s_istore, s_astore, s_lstore, s_iconst, s_sipush, s_aconst_null, s_iadd, s_isub, s_imul, s_iand, s_ior, s_ixor, s_idiv, s_irem, s_ishl, s_ishr, s_iushr, s_ladd, s_lsub, s_land, s_lor, s_lxor, s_lneg, s_lshl, s_lshr, s_lushr, s_i2l, s_l2i, s_lcmp, s_dup, s_pop, s_dup2, s_i2c, s_i2s, s_monitorenter, s_ifCond, s_if_icmp, s_ifnull, s_goto, s_iinc, s_tableswitch, s_ireturn, s_freturn, s_lreturn, s_areturn, s_return_, s_ldc, s_getfield, s_putfield, s_iaload, s_iastore, s_laload, s_lastore, s_baload, s_bastore, s_aaload, s_aastore, s_arraylength, s_newarray, s_anewarray, s_new, s_invokestatic, s_invokespecial, s_invokevirtual, fvl_0, fvl_1, fvl_2, fvl_3, fp_0, fp_1, fp_2, fp_3, rf_s, rf_n, isRf_b, knw_b, isLg_b, popA_0, popA_s, st1_0, st1_s, st2_e, set_0, set_s, aftC_e, hxP_s, hxP_n, iteF, iteT, bft, im_t, im_f, nt_f, nt_t, Nat.reduceDiv, Nat.reduceMod, Nat.reduceLeDiff, Nat.reduceLT, Nat.reduceEqDiff, List.length_cons, List.length_nil, Nat.zero_add, Nat.reduceSub, List.cons_append, List.nil_append, ak_i, az_i, ar_i, al_i, ai_i, ak_l, az_l, ar_l, al_l, ai_l, ak_r, az_r, ar_r, al_r, ai_r, pk_m1, reduceCtorEq, msk_tb, mskL, Bool.and_eq_true, decide_eq_true_eq, lg_0, lg_t, lg_g, lg_e, lg_l, tb_z, Nat.mod_eq_of_lt, lN_1s, and_ze, brT, brF, brN, vpT, a4095, a63, nI_e, nI_l', nI_t', dif_z, and_z, and_zr, lN_e, nI_clamp, nx_shr, Nat.reducePow, bI_0, bI_1, bI_z, bI_o, bI_or, n01, nI_add, pk_mul, nx_and, nx_or, nx_dif, lx_and, lx_or, lx_dif, Bool.not_eq_true, Bool.not_eq_false, Bool.true_eq_false, Bool.false_eq_true, ss_49 hp', a1, q1, e3, lt, p1, false_and, if_false]
        exact z
  exact TC_e (ls := [.ref 49]) (Nat.le_of_ble_eq_true rfl) rfl (lp _ B h rfl (FR.refl _ _) g nd)
end MDL
