/-! THE REFERENCE: A CONFLICT -/
theorem pop_sub {u x : Nat} : ∀ {n : Nat}, (∀ i, u.testBit i = true → x.testBit i = true) → pop u n ≤ pop x n
  | 0, _ => Nat.le_refl _
  | n + 1, h => by
    rw [pop_s, pop_s]
    have ih := pop_sub (n := n) h
    have := h n
    cases e : u.testBit n
    · simp; omega
    · rw [this e]; simp; omega
theorem pop24 {u : Nat} (hu : u < 16777216) : pop u 24 = pop (u % 4096) 12 + pop (u / 4096) 12 := by
  rw [show (24 : Nat) = 12 + 12 from rfl, pop_add]
  congr 1
  refine pop_c fun i hi => ?_
  rw [show (4096 : Nat) = 2 ^ 12 from rfl, Nat.testBit_mod_two_pow]
  simp [hi]
theorem or_add {a b : Nat} (ha : a < 4096) : a ||| b * 4096 = a + 4096 * b := by
  rw [Nat.or_comm, show b * 4096 = 2 ^ 12 * b by omega, ← Nat.two_pow_add_eq_or_of_lt (i := 12) ha]
  omega
theorem rk_mono {m u t : Nat} (hu : ∀ i, u.testBit i = true → m.testBit i = true) (ht : ∀ i, t.testBit i = true → m.testBit i = true) : ∀ n, u % 2 ^ n ≤ t % 2 ^ n → rk m u n ≤ rk m t n
  | 0, _ => Nat.le_refl _
  | n + 1, h => by
    rw [Nat.mod_pow_succ, Nat.mod_pow_succ, ← Nat.toNat_testBit, ← Nat.toNat_testBit] at h
    have ih := rk_mono hu ht n
    have l1 := Nat.mod_lt u (Nat.two_pow_pos n)
    have l2 := Nat.mod_lt t (Nat.two_pow_pos n)
    have r1 := rk_lt m u n
    rw [rk_s, rk_s]
    cases e1 : u.testBit n <;> cases e2 : t.testBit n
    · rw [e1, e2] at h
      simp at h ⊢
      exact ih h
    · rw [ht n e2]
      simp
      omega
    · rw [e1, e2] at h
      simp at h
      omega
    · rw [e1, e2] at h
      rw [ht n e2]
      simp at h ⊢
      exact ih h
section MDL
variable {sc : (Nat → Int32) × Nat} {d : Nat} {h : AH} {Q : Rs → AH → Prop} {P : PG} {A T F : Nat}
def bst (P : PG) (T F x : Nat) (v : Nat → Prop) (b f : Int32) : Prop :=
  (b = -1 ∧ f = nI 9 ∧ ∀ u, u &&& x = u → v u → cmt P T F u) ∨ ∃ z : Nat, b = nI z ∧ f = nI (pop z 24) ∧ z &&& x = z ∧ ¬ cmt P T F z ∧ v z ∧ ∀ u, u &&& x = u → v u → ¬ cmt P T F u → ils u z = false
theorem m_132 (q0 : MQS h P A T F) {a b : Nat} (ha : a < 2 ^ P_n P) (hb : b < 2 ^ P_n P) (h8 : pop a 12 + pop b 12 ≤ 8) : TC sc (d + 6) 132 [.ref 49, .int (nI a), .int (nI b)] h fun q h' => RM h P A T F 0 h' ∧ (q = .inl (some (.int (-1))) ∧ cmt P T F (a + 4096 * b) ∨ ∃ z : Nat, q = .inl (some (.int (nI z))) ∧ lcf P T F (a + 4096 * b) z) := by
  have cl := cnt_le (aset P T F) 4096
  have pn := q0.1.pn
  have a12 : a < 4096 := by omega
  have b12 : b < 4096 := by omega
  generalize hQ : (fun (q : Rs) (h' : AH) => RM h P A T F 0 h' ∧ (q = .inl (some (.int (-1))) ∧ cmt P T F (a + 4096 * b) ∨ ∃ z : Nat, q = .inl (some (.int (nI z))) ∧ lcf P T F (a + 4096 * b) z)) = Q
  refine TC_e (ls := [.ref 49, .int (nI a), .int (nI b), unk, unk, unk, unk, unk, unk]) (Nat.le_of_ble_eq_true rfl) rfl (wx_sound (S := [48]) 60 true _ _ _ _ ?_)
  simp +contextual (disch := omega) only [K132, wx_t, wx_g, wJ_t, wJ_f, wI_s, CI, CL, C01, aftC_v, aftC_n, true_or, or_true, true_and, and_true, inS_n, inS_c, pI_c, pL_c, pA_c, pV_c, pE_c, pQ_s, pQ_n, pQ_r, cm_eq', cm_ne', cm_lt', cm_ge', cm_gt', cm_le', List.getD_cons_zero, List.getD_cons_succ, Nat.reduceAdd, Nat.reduceBEq, Bool.false_or, Bool.or_false, Bool.true_or, Int.reduceToNat, s_iload, s_lload, s_aload, s_istore, s_astore, s_lstore, s_iconst, s_sipush, s_aconst_null, s_iadd, s_isub, s_imul, s_iand, s_ior, s_ixor, s_idiv, s_irem, s_ishl, s_ishr, s_iushr, s_ladd, s_lsub, s_land, s_lor, s_lxor, s_lneg, s_lshl, s_lshr, s_lushr, s_i2l, s_l2i, s_lcmp, s_dup, s_pop, s_dup2, s_i2c, s_i2s, s_monitorenter, s_ifCond, s_if_icmp, s_ifnull, s_goto, s_iinc, s_tableswitch, s_ireturn, s_freturn, s_lreturn, s_areturn, s_return_, s_ldc, s_getfield, s_putfield, s_iaload, s_iastore, s_laload, s_lastore, s_baload, s_bastore, s_aaload, s_aastore, s_arraylength, s_newarray, s_anewarray, s_new, s_invokestatic, s_invokespecial, s_invokevirtual, fvl_0, fvl_1, fvl_2, fvl_3, fp_0, fp_1, fp_2, fp_3, rf_s, rf_n, isRf_b, knw_b, isLg_b, popA_0, popA_s, st1_0, st1_s, st2_e, set_0, set_s, aftC_e, hxP_s, hxP_n, iteF, iteT, bft, im_t, im_f, nt_f, nt_t, Nat.reduceDiv, Nat.reduceMod, Nat.reduceLeDiff, Nat.reduceLT, Nat.reduceEqDiff, List.length_cons, List.length_nil, Nat.zero_add, Nat.reduceSub, List.cons_append, List.nil_append, ak_i, az_i, ar_i, al_i, ai_i, ak_l, az_l, ar_l, al_l, ai_l, ak_r, az_r, ar_r, al_r, ai_r, pk_m1, reduceCtorEq, msk_tb, mskL, Bool.and_eq_true, decide_eq_true_eq, lg_0, lg_t, lg_g, lg_e, lg_l, tb_z, Nat.mod_eq_of_lt, lN_1s, and_ze, brT, brF, brN, vpT, a4095, a63, nI_e, nI_l', nI_t', dif_z, and_z, and_zr, lN_e, nI_clamp, nx_shr, Nat.reducePow, bI_0, bI_1, bI_z, bI_o, bI_or, n01, nI_add, pk_mul, nx_and, nx_or, nx_dif, lx_and, lx_or, lx_dif, Bool.not_eq_true, Bool.not_eq_false, Bool.true_eq_false, Bool.false_eq_true, ss_49 q0.1.1, m_65 q0.1, bP_tt, m_117 a12, m_117 b12, m_61z q0.1.1]
  refine TC_mono (m_125 q0.t) ?_
  rintro q h1 ⟨rfl, f1, r⟩
  have rm := RM.o2 q0 f1 r
  have q1 := rm.2.1
  have hp := q1.1.1
  have sh : nI b <<< (nI 12 &&& 31) = nI (b * 4096) := nx_shl b 12 (by decide) (by omega)
  have oa := or_add (b := b) a12
  by_cases e0 : cnt (aset P T F) 4096 = 0
  · simp +contextual (disch := omega) only [K132, wx_t, wx_g, wJ_t, wJ_f, wI_s, CI, CL, C01, aftC_v, aftC_n, true_or, or_true, true_and, and_true, inS_n, inS_c, pI_c, pL_c, pA_c, pV_c, pE_c, pQ_s, pQ_n, pQ_r, cm_eq', cm_ne', cm_lt', cm_ge', cm_gt', cm_le', List.getD_cons_zero, List.getD_cons_succ, Nat.reduceAdd, Nat.reduceBEq, Bool.false_or, Bool.or_false, Bool.true_or, Int.reduceToNat, s_iload, s_lload, s_aload, s_istore, s_astore, s_lstore, s_iconst, s_sipush, s_aconst_null, s_iadd, s_isub, s_imul, s_iand, s_ior, s_ixor, s_idiv, s_irem, s_ishl, s_ishr, s_iushr, s_ladd, s_lsub, s_land, s_lor, s_lxor, s_lneg, s_lshl, s_lshr, s_lushr, s_i2l, s_l2i, s_lcmp, s_dup, s_pop, s_dup2, s_i2c, s_i2s, s_monitorenter, s_ifCond, s_if_icmp, s_ifnull, s_goto, s_iinc, s_tableswitch, s_ireturn, s_freturn, s_lreturn, s_areturn, s_return_, s_ldc, s_getfield, s_putfield, s_iaload, s_iastore, s_laload, s_lastore, s_baload, s_bastore, s_aaload, s_aastore, s_arraylength, s_newarray, s_anewarray, s_new, s_invokestatic, s_invokespecial, s_invokevirtual, fvl_0, fvl_1, fvl_2, fvl_3, fp_0, fp_1, fp_2, fp_3, rf_s, rf_n, isRf_b, knw_b, isLg_b, popA_0, popA_s, st1_0, st1_s, st2_e, set_0, set_s, aftC_e, hxP_s, hxP_n, iteF, iteT, bft, im_t, im_f, nt_f, nt_t, Nat.reduceDiv, Nat.reduceMod, Nat.reduceLeDiff, Nat.reduceLT, Nat.reduceEqDiff, List.length_cons, List.length_nil, Nat.zero_add, Nat.reduceSub, List.cons_append, List.nil_append, ak_i, az_i, ar_i, al_i, ai_i, ak_l, az_l, ar_l, al_l, ai_l, ak_r, az_r, ar_r, al_r, ai_r, pk_m1, reduceCtorEq, msk_tb, mskL, Bool.and_eq_true, decide_eq_true_eq, lg_0, lg_t, lg_g, lg_e, lg_l, tb_z, Nat.mod_eq_of_lt, lN_1s, and_ze, brT, brF, brN, vpT, a4095, a63, nI_e, nI_l', nI_t', dif_z, and_z, and_zr, lN_e, nI_clamp, nx_shr, Nat.reducePow, bI_0, bI_1, bI_z, bI_o, bI_or, n01, nI_add, pk_mul, nx_and, nx_or, nx_dif, lx_and, lx_or, lx_dif, Bool.not_eq_true, Bool.not_eq_false, Bool.true_eq_false, Bool.false_eq_true, ss_49 hp, r.2.1, e0]
    rw [← hQ]
    have no : ∀ u, ¬ cmt P T F u := fun u ⟨s, h1, _⟩ => by
      have := cnt_mono (aset P T F) (a := s + 1) (b := 4096) (Nat.lt_of_lt_of_le (aset_n h1) pn)
      rw [← cnt_t h1] at this; omega
    refine ⟨rm, Or.inr ⟨0, rfl, Nat.zero_and _, no 0, fun u _ _ => decide_eq_false ?_⟩⟩
    have : pop 0 24 = 0 := by decide
    omega
  · obtain ⟨s0, s1, s2, -⟩ := cnt_ex (Nat.pos_of_ne_zero e0)
    have c0 : cmt P T F 0 := ⟨s0, s2, by unfold mee dif; simp⟩
    generalize hx : a + 4096 * b = x at *
    have xl : x < 2 ^ 24 := by omega
    have px : pop x 24 ≤ 8 := by
      rw [pop24 (by omega), show x % 4096 = a by omega, show x / 4096 = b by omega]; exact h8
    have lp : ∀ j t, rk x t 24 = j → t &&& x = t → ∀ b' f, bst P T F x (fun u => j < rk x u 24) b' f → ∀ y, TT sc (d + 5) 132 Q 48 [.ref 49, .int (nI a), .int (nI b), .int (nI 1), .int (nI x), .int b', .int f, .int (nI t), y] [] h1 := by
      intro j
      induction j with
      | zero =>
        intro t hr ht b' f H y
        have t0 := wk_z xl ht hr
        subst t0
        refine wx_sound (S := [48]) 60 true _ _ _ _ ?_
        simp +contextual (disch := omega) only [K132, wx_t, wx_g, wJ_t, wJ_f, wI_s, CI, CL, C01, aftC_v, aftC_n, true_or, or_true, true_and, and_true, inS_n, inS_c, pI_c, pL_c, pA_c, pV_c, pE_c, pQ_s, pQ_n, pQ_r, cm_eq', cm_ne', cm_lt', cm_ge', cm_gt', cm_le', List.getD_cons_zero, List.getD_cons_succ, Nat.reduceAdd, Nat.reduceBEq, Bool.false_or, Bool.or_false, Bool.true_or, Int.reduceToNat, s_iload, s_lload, s_aload, s_istore, s_astore, s_lstore, s_iconst, s_sipush, s_aconst_null, s_iadd, s_isub, s_imul, s_iand, s_ior, s_ixor, s_idiv, s_irem, s_ishl, s_ishr, s_iushr, s_ladd, s_lsub, s_land, s_lor, s_lxor, s_lneg, s_lshl, s_lshr, s_lushr, s_i2l, s_l2i, s_lcmp, s_dup, s_pop, s_dup2, s_i2c, s_i2s, s_monitorenter, s_ifCond, s_if_icmp, s_ifnull, s_goto, s_iinc, s_tableswitch, s_ireturn, s_freturn, s_lreturn, s_areturn, s_return_, s_ldc, s_getfield, s_putfield, s_iaload, s_iastore, s_laload, s_lastore, s_baload, s_bastore, s_aaload, s_aastore, s_arraylength, s_newarray, s_anewarray, s_new, s_invokestatic, s_invokespecial, s_invokevirtual, fvl_0, fvl_1, fvl_2, fvl_3, fp_0, fp_1, fp_2, fp_3, rf_s, rf_n, isRf_b, knw_b, isLg_b, popA_0, popA_s, st1_0, st1_s, st2_e, set_0, set_s, aftC_e, hxP_s, hxP_n, iteF, iteT, bft, im_t, im_f, nt_f, nt_t, Nat.reduceDiv, Nat.reduceMod, Nat.reduceLeDiff, Nat.reduceLT, Nat.reduceEqDiff, List.length_cons, List.length_nil, Nat.zero_add, Nat.reduceSub, List.cons_append, List.nil_append, ak_i, az_i, ar_i, al_i, ai_i, ak_l, az_l, ar_l, al_l, ai_l, ak_r, az_r, ar_r, al_r, ai_r, pk_m1, reduceCtorEq, msk_tb, mskL, Bool.and_eq_true, decide_eq_true_eq, lg_0, lg_t, lg_g, lg_e, lg_l, tb_z, Nat.mod_eq_of_lt, lN_1s, and_ze, brT, brF, brN, vpT, a4095, a63, nI_e, nI_l', nI_t', dif_z, and_z, and_zr, lN_e, nI_clamp, nx_shr, Nat.reducePow, bI_0, bI_1, bI_z, bI_o, bI_or, n01, nI_add, pk_mul, nx_and, nx_or, nx_dif, lx_and, lx_or, lx_dif, Bool.not_eq_true, Bool.not_eq_false, Bool.true_eq_false, Bool.false_eq_true, ss_49 hp]
        rw [← hQ]
        refine ⟨rm, ?_⟩
        have rz : ∀ u, u &&& x = u → ¬ 0 < rk x u 24 → u = 0 := fun u hu n => wk_z xl hu (by omega)
        rcases H with ⟨h1, h2, h3⟩ | ⟨z, h1, h2, h3, h4, h5, h6⟩
        · refine Or.inl ⟨by rw [h1], ?_⟩
          by_cases q : 0 < rk x x 24
          · exact h3 x (Nat.and_self x) q
          · rw [rz x (Nat.and_self x) q]; exact c0
        · refine Or.inr ⟨z, by rw [h1], h3, h4, fun u hu nu => ?_⟩
          by_cases q : 0 < rk x u 24
          · exact h6 u hu q nu
          · rw [rz u hu q] at nu; exact absurd c0 nu
      | succ j ih =>
        intro t hr ht b' f H y
        have t0 : t ≠ 0 := by rintro rfl; rw [rk_0] at hr; omega
        have tl : t < 2 ^ 24 := Nat.lt_of_le_of_lt (ht ▸ Nat.and_le_right) xl
        have e := rk_pred (n := 24) tl t0 (sub_tb.mp ht)
        have as : (t - 1 &&& x) &&& x = t - 1 &&& x := by rw [Nat.and_assoc, Nat.and_self]
        have p1 : nI t - nI 1 = nI (t - 1) := pk_sub (by omega)
        have tz : (nI t = nI 0) = False := eq_false (by rw [nI_e (by omega) (by decide)]; exact t0)
        have pt := pop24 (show t < 16777216 from tl)
        have p8 : pop t 24 ≤ 8 := Nat.le_trans (pop_sub (sub_tb.mp ht)) px
        have vt : ∀ u, u &&& x = u → j < rk x u 24 → u = t ∨ j + 1 < rk x u 24 := fun u hu h => by
          by_cases q : rk x u 24 = rk x t 24
          · refine Or.inl (Nat.eq_of_testBit_eq fun i => ?_)
            by_cases i24 : i < 24
            · exact rk_inj (sub_tb.mp hu) (sub_tb.mp ht) q i i24
            · rw [tb_ge (Nat.lt_of_le_of_lt (hu ▸ Nat.and_le_right) xl) (by omega), tb_ge tl (by omega)]
          · exact Or.inr (by omega)
        have keep : (cmt P T F t ∨ ∀ z, b' = nI z → f = nI (pop z 24) → ils t z = false) → (¬ cmt P T F t → b' ≠ -1) → bst P T F x (fun u => j < rk x u 24) b' f := fun n m => by
          rcases H with ⟨h1, h2, h3⟩ | ⟨z, h1, h2, h3, h4, h5, h6⟩
          · refine Or.inl ⟨h1, h2, fun u hu hv => ?_⟩
            rcases vt u hu hv with q | q
            · rw [q]
              apply Classical.byContradiction
              exact fun n => m n h1
            · exact h3 u hu q
          · refine Or.inr ⟨z, h1, h2, h3, h4, Nat.lt_of_succ_lt h5, fun u hu hv nu => ?_⟩
            rcases vt u hu hv with q | q
            · rw [q] at nu ⊢
              rcases n with n | n
              · exact absurd n nu
              · exact n z h1 h2
            · exact h6 u hu q nu
        have cm : (∃ s, aset P T F s = true ∧ mee (t % 4096) (t / 4096) s = true) = cmt P T F t := rfl
        obtain ⟨fv, hfv, fp⟩ : ∃ fv : Nat, f = nI fv ∧ fv ≤ 24 := by
          rcases H with ⟨h1, h2, h3⟩ | ⟨z, h1, h2, h3⟩
          · exact ⟨9, h2, by omega⟩
          · exact ⟨_, h2, pop_le _ _⟩
        refine wx_sound (S := [48]) 80 true _ _ _ _ ?_
        simp +contextual (disch := omega) only [K132, wx_t, wx_g, wJ_t, wJ_f, wI_s, CI, CL, C01, aftC_v, aftC_n, true_or, or_true, true_and, and_true, inS_n, inS_c, pI_c, pL_c, pA_c, pV_c, pE_c, pQ_s, pQ_n, pQ_r, cm_eq', cm_ne', cm_lt', cm_ge', cm_gt', cm_le', List.getD_cons_zero, List.getD_cons_succ, Nat.reduceAdd, Nat.reduceBEq, Bool.false_or, Bool.or_false, Bool.true_or, Int.reduceToNat, s_iload, s_lload, s_aload, s_istore, s_astore, s_lstore, s_iconst, s_sipush, s_aconst_null, s_iadd, s_isub, s_imul, s_iand, s_ior, s_ixor, s_idiv, s_irem, s_ishl, s_ishr, s_iushr, s_ladd, s_lsub, s_land, s_lor, s_lxor, s_lneg, s_lshl, s_lshr, s_lushr, s_i2l, s_l2i, s_lcmp, s_dup, s_pop, s_dup2, s_i2c, s_i2s, s_monitorenter, s_ifCond, s_if_icmp, s_ifnull, s_goto, s_iinc, s_tableswitch, s_ireturn, s_freturn, s_lreturn, s_areturn, s_return_, s_ldc, s_getfield, s_putfield, s_iaload, s_iastore, s_laload, s_lastore, s_baload, s_bastore, s_aaload, s_aastore, s_arraylength, s_newarray, s_anewarray, s_new, s_invokestatic, s_invokespecial, s_invokevirtual, fvl_0, fvl_1, fvl_2, fvl_3, fp_0, fp_1, fp_2, fp_3, rf_s, rf_n, isRf_b, knw_b, isLg_b, popA_0, popA_s, st1_0, st1_s, st2_e, set_0, set_s, aftC_e, hxP_s, hxP_n, iteF, iteT, bft, im_t, im_f, nt_f, nt_t, Nat.reduceDiv, Nat.reduceMod, Nat.reduceLeDiff, Nat.reduceLT, Nat.reduceEqDiff, List.length_cons, List.length_nil, Nat.zero_add, Nat.reduceSub, List.cons_append, List.nil_append, ak_i, az_i, ar_i, al_i, ai_i, ak_l, az_l, ar_l, al_l, ai_l, ak_r, az_r, ar_r, al_r, ai_r, pk_m1, reduceCtorEq, msk_tb, mskL, Bool.and_eq_true, decide_eq_true_eq, lg_0, lg_t, lg_g, lg_e, lg_l, tb_z, Nat.mod_eq_of_lt, lN_1s, and_ze, brT, brF, brN, vpT, a4095, a63, nI_e, nI_l', nI_t', dif_z, and_z, and_zr, lN_e, nI_clamp, nx_shr, Nat.reducePow, bI_0, bI_1, bI_z, bI_o, bI_or, n01, nI_add, pk_mul, nx_and, nx_or, nx_dif, lx_and, lx_or, lx_dif, Bool.not_eq_true, Bool.not_eq_false, Bool.true_eq_false, Bool.false_eq_true, ss_49 hp, p1, tz, m_117 (show t % 4096 < 4096 by omega), m_117 (show t / 4096 < 4096 by omega), m_130 q1 r (a := t % 4096) (b := t / 4096) (by omega) (by omega), hfv, cm, bP_t, bP_f, ← pt]
        have fz : ∀ n : Nat, n ≤ 24 → f = nI n → fv = n := fun n hn q => by
          rw [hfv] at q
          have := (nI_e (a := fv) (b := n) (by omega) (by omega)).mp q
          exact this
        refine And.intro (fun e1 => ?_) fun e1 => And.intro (fun e2 => ?_) fun e2 => ?_
        · rw [← hfv]
          refine ih _ (by omega) as _ _ (keep (Or.inr fun z _ q => ?_) fun _ q => ?_) _
          · have := fz _ (pop_le _ _) q
            exact decide_eq_false (by omega)
          · rcases H with ⟨h1, h2, h3⟩ | ⟨z, h1, h2, h3, -⟩
            · have := fz 9 (by omega) h2
              omega
            · rw [h1] at q
              exact absurd q (n_m1 (by have := Nat.lt_of_le_of_lt (h3 ▸ Nat.and_le_right) xl; omega))
        · rw [← hfv]
          exact ih _ (by omega) as _ _ (keep (Or.inl e2) fun n => absurd e2 n) _
        · refine ih _ (by omega) as _ _ (Or.inr ⟨t, rfl, rfl, ht, e2, by omega, fun u hu hv nu => ?_⟩) _
          rcases vt u hu hv with q | q
          · rw [q]; exact decide_eq_false (by omega)
          · have ul : u < 2 ^ 24 := Nat.lt_of_le_of_lt (hu ▸ Nat.and_le_right) xl
            have ut : ¬ u ≤ t := fun z => by
              have := rk_mono (sub_tb.mp hu) (sub_tb.mp ht) 24 (by rw [Nat.mod_eq_of_lt ul, Nat.mod_eq_of_lt tl]; exact z)
              omega
            rcases H with ⟨h1, h2, h3⟩ | ⟨z, h1, h2, h3, h4, h5, h6⟩
            · exact absurd (h3 u hu q) nu
            · have h7 := h6 u hu q nu
              have h8 := fz _ (pop_le _ _) h2
              unfold ils at h7 ⊢
              rw [decide_eq_false_iff_not] at *
              omega
    simp +contextual (disch := omega) only [K132, wx_t, wx_g, wJ_t, wJ_f, wI_s, CI, CL, C01, aftC_v, aftC_n, true_or, or_true, true_and, and_true, inS_n, inS_c, pI_c, pL_c, pA_c, pV_c, pE_c, pQ_s, pQ_n, pQ_r, cm_eq', cm_ne', cm_lt', cm_ge', cm_gt', cm_le', List.getD_cons_zero, List.getD_cons_succ, Nat.reduceAdd, Nat.reduceBEq, Bool.false_or, Bool.or_false, Bool.true_or, Int.reduceToNat, s_iload, s_lload, s_aload, s_istore, s_astore, s_lstore, s_iconst, s_sipush, s_aconst_null, s_iadd, s_isub, s_imul, s_iand, s_ior, s_ixor, s_idiv, s_irem, s_ishl, s_ishr, s_iushr, s_ladd, s_lsub, s_land, s_lor, s_lxor, s_lneg, s_lshl, s_lshr, s_lushr, s_i2l, s_l2i, s_lcmp, s_dup, s_pop, s_dup2, s_i2c, s_i2s, s_monitorenter, s_ifCond, s_if_icmp, s_ifnull, s_goto, s_iinc, s_tableswitch, s_ireturn, s_freturn, s_lreturn, s_areturn, s_return_, s_ldc, s_getfield, s_putfield, s_iaload, s_iastore, s_laload, s_lastore, s_baload, s_bastore, s_aaload, s_aastore, s_arraylength, s_newarray, s_anewarray, s_new, s_invokestatic, s_invokespecial, s_invokevirtual, fvl_0, fvl_1, fvl_2, fvl_3, fp_0, fp_1, fp_2, fp_3, rf_s, rf_n, isRf_b, knw_b, isLg_b, popA_0, popA_s, st1_0, st1_s, st2_e, set_0, set_s, aftC_e, hxP_s, hxP_n, iteF, iteT, bft, im_t, im_f, nt_f, nt_t, Nat.reduceDiv, Nat.reduceMod, Nat.reduceLeDiff, Nat.reduceLT, Nat.reduceEqDiff, List.length_cons, List.length_nil, Nat.zero_add, Nat.reduceSub, List.cons_append, List.nil_append, ak_i, az_i, ar_i, al_i, ai_i, ak_l, az_l, ar_l, al_l, ai_l, ak_r, az_r, ar_r, al_r, ai_r, pk_m1, reduceCtorEq, msk_tb, mskL, Bool.and_eq_true, decide_eq_true_eq, lg_0, lg_t, lg_g, lg_e, lg_l, tb_z, Nat.mod_eq_of_lt, lN_1s, and_ze, brT, brF, brN, vpT, a4095, a63, nI_e, nI_l', nI_t', dif_z, and_z, and_zr, lN_e, nI_clamp, nx_shr, Nat.reducePow, bI_0, bI_1, bI_z, bI_o, bI_or, n01, nI_add, pk_mul, nx_and, nx_or, nx_dif, lx_and, lx_or, lx_dif, Bool.not_eq_true, Bool.not_eq_false, Bool.true_eq_false, Bool.false_eq_true, ss_49 hp, r.2.1, e0, sh, oa]
    refine lp _ x rfl (Nat.and_self x) (-1) (nI 9) (Or.inl ⟨rfl, rfl, fun u hu hv => ?_⟩) unk
    have ul : u < 2 ^ 24 := Nat.lt_of_le_of_lt (hu ▸ Nat.and_le_right) xl
    have := rk_mono (sub_tb.mp hu) (sub_tb.mp (Nat.and_self x)) 24 (by rw [Nat.mod_eq_of_lt ul, Nat.mod_eq_of_lt xl]; exact hu ▸ Nat.and_le_right)
    exact absurd hv (by omega)
end MDL
