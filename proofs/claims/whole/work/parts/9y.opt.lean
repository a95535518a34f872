/-! CALLS OF BOTH SIDES: 15 TO 18 -/
section OPS
variable {sc : (Nat → Int32) × Nat} {d : Nat} {h : AH} {Q : Rs → AH → Prop} {np : Nat} {pl : Nat → Nat} {R : RW} {m : Nat} {Ro : Nat → RW} {A I : List Nat} {X T F pc : Nat} {pa pb : Nat → Nat} {r : Nat}
theorem INV_0 (p : PIV np R m Ro A I X T F) (c : CIV h np pl R m Ro A I X T F pc pa pb r) (s : MIV h np pl R m Ro A I X T F pc pa pb) (o : OU h) (k : Nat) : INVA (ap_i h 49 0 (nI k)) := by
  have f : FR h (ap_i h 49 0 (nI k)) (fun a j => a = 49 ∧ j = 0) := (FR.refl _ _).i ⟨rfl, rfl⟩
  exact ⟨np, pl, R, m, Ro, A, I, X, T, F, pc, pa, pb, r, p, c.mo p (f.mono fun a k z => by omega), s.am (fun a j h1 h2 h3 h4 => ⟨f.ci h4, f.cl h4⟩) (s.2.1.fr f fun k z => by omega), o.fr f⟩
/-- 15: atom -/
theorem op_15 (iv : INVA h) (p0 p1 p2 : Int32) : opI sc 264 110 [.ref 0, .int p0, .int p1, .int p2, .ref 69] [.ref 49, .int p0, .int p1, .int p2] h := by
  obtain ⟨np, pl, R, m, Ro, A, I, X, T, F, pc, pa, pb, r, p, c, s, o⟩ := iv
  have hp := c.1.1
  have n70 := c.1.2
  have W := fun Q => w_264 (sc := sc) (d := 59) (h := h) (Q := Q) hp p0 p1 p2
  have g := AG_th h
  have hpx := hp.ag g n70
  have plx := s.1.ag g n70
  have np6 := p.2.1
  by_cases h1 : vp_in p0 np
  · obtain ⟨p', hp1, rfl⟩ := vp_in_of h1 (by omega)
    cases ht : trmB pl p' (nI 0) p1 p2
    · exact opI_ref (E := 0) (k := 2) W (by omega) (by omega) (fun Q => d_16n hp c.2.1 hp1 ht) (fun Q => m_110n hpx plx hp1 ht) o n70 (INV_th p c s o 2)
    · obtain ⟨x, y, hx, hy, rfl, rfl⟩ := trm_c ht
      obtain ⟨b, gc⟩ := c.2.2.2.2.1.1
      have f := @f69 h (nI (idx A (p' * 100 + x * 10 + y)) - nI 1).toInt64
      obtain ⟨c2, s2, o2, n2, u2⟩ := Q_mid p c s o (Or.inl f)
      refine opI_ok W (fun Q => d_16 hp c.2.1 gc hp1 hx hy ht) (fun Q => m_110 c2.1.1 s2.1 s2.2.2.2.1.1 hp1 hx hy ht) o l69 ai_y ⟨INV_0 p c2 s2 o2 0, ?_, ?_⟩
      · show ah_n h ≤ ah_n h + 17; omega
      · show ah_u h ≤ ah_u h + 80; omega
  · exact opI_ref (E := 2) (k := 1) W (by omega) (by omega) (fun Q => d_16p hp c.2.1 h1 p1 p2) (fun Q => m_110p hpx plx h1 p1 p2) o n70 (INV_th p c s o 1)
theorem d_17 (hp : SHP h) {b : Bool} (gc : GC h 19 (A, I, b)) : TC sc (d + 2) 17 [.ref 0] h Q ↔ Q (.inl (some (.int (nI (I.length + 100 * A.length))))) h := TC_of (fun Q hq => by
  have k184 : ∀ Q, TC sc (d + 1) 184 [.ref 19] h Q ↔ Q (.inl (some (.int (nI (I.length + 100 * A.length))))) h := fun Q => c_184 (gs_19 hp) gc.1 gc.2.1
  refine TC_e (ls := [.ref 0]) (Nat.le_of_ble_eq_true rfl) rfl (wx_sound (S := []) 20 true _ _ _ _ ?_)
  simp +contextual (disch := omega) only [K17, wx_t, wx_g, wJ_t, wJ_f, wI_s, CI, CL, C01, aftC_v, aftC_n, true_or, or_true, true_and, and_true, inS_n, inS_c, pI_c, pL_c, pA_c, pV_c, pE_c, pQ_s, pQ_n, pQ_r, cm_eq', cm_ne', cm_lt', cm_ge', cm_gt', cm_le', List.getD_cons_zero, List.getD_cons_succ, Nat.reduceAdd, Nat.reduceBEq, Bool.false_or, Bool.or_false, Bool.true_or, Int.reduceToNat, s_iload, s_lload, s_aload, s_istore, s_astore, s_lstore, s_iconst, s_sipush, s_aconst_null, s_iadd, s_isub, s_imul, s_iand, s_ior, s_ixor, s_idiv, s_irem, s_ishl, s_ishr, s_iushr, s_ladd, s_lsub, s_land, s_lor, s_lxor, s_lneg, s_lshl, s_lshr, s_lushr, s_i2l, s_l2i, s_lcmp, s_dup, s_pop, s_dup2, s_i2c, s_i2s, s_monitorenter, s_ifCond, s_if_icmp, s_ifnull, s_goto, s_iinc, s_tableswitch, s_ireturn, s_freturn, s_lreturn, s_areturn, s_return_, s_ldc, s_getfield, s_putfield, s_iaload, s_iastore, s_laload, s_lastore, s_baload, s_bastore, s_aaload, s_aastore, s_arraylength, s_newarray, s_anewarray, s_new, s_invokestatic, s_invokespecial, s_invokevirtual, fvl_0, fvl_1, fvl_2, fvl_3, fp_0, fp_1, fp_2, fp_3, rf_s, rf_n, isRf_b, knw_b, isLg_b, popA_0, popA_s, st1_0, st1_s, st2_e, set_0, set_s, aftC_e, hxP_s, hxP_n, iteF, iteT, bft, im_t, im_f, nt_f, nt_t, Nat.reduceDiv, Nat.reduceMod, Nat.reduceLeDiff, Nat.reduceLT, Nat.reduceEqDiff, List.length_cons, List.length_nil, Nat.zero_add, Nat.reduceSub, List.cons_append, List.nil_append, ak_i, az_i, ar_i, al_i, ai_i, ak_l, az_l, ar_l, al_l, ai_l, ak_r, az_r, ar_r, al_r, ai_r, pk_m1, reduceCtorEq, msk_tb, mskL, Bool.and_eq_true, decide_eq_true_eq, lg_0, lg_t, lg_g, lg_e, lg_l, tb_z, Nat.mod_eq_of_lt, lN_1s, and_ze, brT, brF, brN, vpT, a4095, a63, nI_e, nI_l', nI_t', dif_z, and_z, and_zr, lN_e, nI_clamp, nx_shr, Nat.reducePow, bI_0, bI_1, bI_z, bI_o, bI_or, n01, nI_add, pk_mul, nx_and, nx_or, nx_dif, lx_and, lx_or, lx_dif, Bool.not_eq_true, Bool.not_eq_false, Bool.true_eq_false, Bool.false_eq_true, ss_0 hp, ss_19 hp, k184]
  exact hq) Q
theorem m_111 (hp : SHP h) (g : MG h A I) : (∀ Q : Rs → AH → Prop, TC sc (d + 1) 111 [.ref 49] h Q ↔ Q (.inl (some (.int (nI (I.length + 100 * A.length))))) (ap_i h 49 0 (nI 0))) ∧ ∀ Q : Rs → AH → Prop, TC sc (d + 1) 112 [.ref 49] h Q ↔ Q (.inl (some (.int (nI (I.length + 100 * A.length))))) (ap_i h 49 0 (nI 0)) := by
  have e : 100 * A.length + I.length = I.length + 100 * A.length := Nat.add_comm _ _
  have g1 := g.1.1
  have g2 := g.2.1
  constructor
  · exact TC_of (fun Q hq => by
      refine TC_e (ls := [.ref 49]) (Nat.le_of_ble_eq_true rfl) rfl (wx_sound (S := []) 20 true _ _ _ _ ?_)
      simp +contextual (disch := omega) only [K111, wx_t, wx_g, wJ_t, wJ_f, wI_s, CI, CL, C01, aftC_v, aftC_n, true_or, or_true, true_and, and_true, inS_n, inS_c, pI_c, pL_c, pA_c, pV_c, pE_c, pQ_s, pQ_n, pQ_r, cm_eq', cm_ne', cm_lt', cm_ge', cm_gt', cm_le', List.getD_cons_zero, List.getD_cons_succ, Nat.reduceAdd, Nat.reduceBEq, Bool.false_or, Bool.or_false, Bool.true_or, Int.reduceToNat, s_iload, s_lload, s_aload, s_istore, s_astore, s_lstore, s_iconst, s_sipush, s_aconst_null, s_iadd, s_isub, s_imul, s_iand, s_ior, s_ixor, s_idiv, s_irem, s_ishl, s_ishr, s_iushr, s_ladd, s_lsub, s_land, s_lor, s_lxor, s_lneg, s_lshl, s_lshr, s_lushr, s_i2l, s_l2i, s_lcmp, s_dup, s_pop, s_dup2, s_i2c, s_i2s, s_monitorenter, s_ifCond, s_if_icmp, s_ifnull, s_goto, s_iinc, s_tableswitch, s_ireturn, s_freturn, s_lreturn, s_areturn, s_return_, s_ldc, s_getfield, s_putfield, s_iaload, s_iastore, s_laload, s_lastore, s_baload, s_bastore, s_aaload, s_aastore, s_arraylength, s_newarray, s_anewarray, s_new, s_invokestatic, s_invokespecial, s_invokevirtual, fvl_0, fvl_1, fvl_2, fvl_3, fp_0, fp_1, fp_2, fp_3, rf_s, rf_n, isRf_b, knw_b, isLg_b, popA_0, popA_s, st1_0, st1_s, st2_e, set_0, set_s, aftC_e, hxP_s, hxP_n, iteF, iteT, bft, im_t, im_f, nt_f, nt_t, Nat.reduceDiv, Nat.reduceMod, Nat.reduceLeDiff, Nat.reduceLT, Nat.reduceEqDiff, List.length_cons, List.length_nil, Nat.zero_add, Nat.reduceSub, List.cons_append, List.nil_append, ak_i, az_i, ar_i, al_i, ai_i, ak_l, az_l, ar_l, al_l, ai_l, ak_r, az_r, ar_r, al_r, ai_r, pk_m1, reduceCtorEq, msk_tb, mskL, Bool.and_eq_true, decide_eq_true_eq, lg_0, lg_t, lg_g, lg_e, lg_l, tb_z, Nat.mod_eq_of_lt, lN_1s, and_ze, brT, brF, brN, vpT, a4095, a63, nI_e, nI_l', nI_t', dif_z, and_z, and_zr, lN_e, nI_clamp, nx_shr, Nat.reducePow, bI_0, bI_1, bI_z, bI_o, bI_or, n01, nI_add, pk_mul, nx_and, nx_or, nx_dif, lx_and, lx_or, lx_dif, Bool.not_eq_true, Bool.not_eq_false, Bool.true_eq_false, Bool.false_eq_true, ss_49 hp, g1, g2, e, false_and, if_false]
      exact hq)
  · exact TC_of (fun Q hq => by
      refine TC_e (ls := [.ref 49]) (Nat.le_of_ble_eq_true rfl) rfl (wx_sound (S := []) 20 true _ _ _ _ ?_)
      simp +contextual (disch := omega) only [K112, wx_t, wx_g, wJ_t, wJ_f, wI_s, CI, CL, C01, aftC_v, aftC_n, true_or, or_true, true_and, and_true, inS_n, inS_c, pI_c, pL_c, pA_c, pV_c, pE_c, pQ_s, pQ_n, pQ_r, cm_eq', cm_ne', cm_lt', cm_ge', cm_gt', cm_le', List.getD_cons_zero, List.getD_cons_succ, Nat.reduceAdd, Nat.reduceBEq, Bool.false_or, Bool.or_false, Bool.true_or, Int.reduceToNat, s_iload, s_lload, s_aload, s_istore, s_astore, s_lstore, s_iconst, s_sipush, s_aconst_null, s_iadd, s_isub, s_imul, s_iand, s_ior, s_ixor, s_idiv, s_irem, s_ishl, s_ishr, s_iushr, s_ladd, s_lsub, s_land, s_lor, s_lxor, s_lneg, s_lshl, s_lshr, s_lushr, s_i2l, s_l2i, s_lcmp, s_dup, s_pop, s_dup2, s_i2c, s_i2s, s_monitorenter, s_ifCond, s_if_icmp, s_ifnull, s_goto, s_iinc, s_tableswitch, s_ireturn, s_freturn, s_lreturn, s_areturn, s_return_, s_ldc, s_getfield, s_putfield, s_iaload, s_iastore, s_laload, s_lastore, s_baload, s_bastore, s_aaload, s_aastore, s_arraylength, s_newarray, s_anewarray, s_new, s_invokestatic, s_invokespecial, s_invokevirtual, fvl_0, fvl_1, fvl_2, fvl_3, fp_0, fp_1, fp_2, fp_3, rf_s, rf_n, isRf_b, knw_b, isLg_b, popA_0, popA_s, st1_0, st1_s, st2_e, set_0, set_s, aftC_e, hxP_s, hxP_n, iteF, iteT, bft, im_t, im_f, nt_f, nt_t, Nat.reduceDiv, Nat.reduceMod, Nat.reduceLeDiff, Nat.reduceLT, Nat.reduceEqDiff, List.length_cons, List.length_nil, Nat.zero_add, Nat.reduceSub, List.cons_append, List.nil_append, ak_i, az_i, ar_i, al_i, ai_i, ak_l, az_l, ar_l, al_l, ai_l, ak_r, az_r, ar_r, al_r, ai_r, pk_m1, reduceCtorEq, msk_tb, mskL, Bool.and_eq_true, decide_eq_true_eq, lg_0, lg_t, lg_g, lg_e, lg_l, tb_z, Nat.mod_eq_of_lt, lN_1s, and_ze, brT, brF, brN, vpT, a4095, a63, nI_e, nI_l', nI_t', dif_z, and_z, and_zr, lN_e, nI_clamp, nx_shr, Nat.reducePow, bI_0, bI_1, bI_z, bI_o, bI_or, n01, nI_add, pk_mul, nx_and, nx_or, nx_dif, lx_and, lx_or, lx_dif, Bool.not_eq_true, Bool.not_eq_false, Bool.true_eq_false, Bool.false_eq_true, ss_49 hp, g1, g2, e, false_and, if_false]
      exact hq)
/-- 16: ground -/
theorem op_16 (iv : INVA h) : opN sc 17 111 h := by
  obtain ⟨np, pl, R, m, Ro, A, I, X, T, F, pc, pa, pb, r, p, c, s, o⟩ := iv
  obtain ⟨b, gc⟩ := c.2.2.2.2.1.1
  refine ⟨_, (d_17 c.1.1 gc).mpr ⟨rfl, ((m_111 c.1.1 s.2.2.2.1.1).1 _).mpr ⟨rfl, INV_0 p c s o 0, ?_, ?_⟩⟩⟩
  · show ah_n h ≤ ah_n h + 17; omega
  · show ah_u h ≤ ah_u h + 80; omega
/-- 17: groundAnew -/
theorem op_17 (iv : INVA h) : opN sc 18 112 h := by
  obtain ⟨np, pl, R, m, Ro, A, I, X, T, F, pc, pa, pb, r, p, c, s, o⟩ := iv
  obtain ⟨⟨b, gc⟩, c22, c26, b5⟩ := c.2.2.2.2.1
  have a12 : A.length ≤ 12 := gc.1.2.1
  have x31 : X < 2 ^ 31 := Nat.lt_of_lt_of_le p.2.2.2.2.2.1 (p2_le (n := 31) (by omega))
  have nd : A.Nodup := p.2.2.2.1.1.1
  have D := d_18 (sc := sc) (d := 47) c.1.1 c.2.2.2.1.1 c.2.2.2.1.2.1 gc c26 b5 c.2.2.2.2.2.1.1.2.1.1 x31 nd
  have an := gal_anew p.2.2.1 p.2.2.2.1 rfl p.2.2.2.2.1 (fun x ⟨k, k1, k2, k3⟩ => by
    show x ∈ A
    rw [← k3]; exact lat_mem k1) (exl_n (X := X) nd (Nat.le_refl _)).1 (fun x => exl_m)
  rw [an.2.1, an.2.2] at D
  refine ⟨nI (I.length + 100 * A.length), TC_mono D ?_⟩
  rintro q h1 ⟨rfl, f, g26, g5⟩
  have fv := f.v fun _ _ => False
  have nn : ∀ a k, (a < 23 ∨ 26 < a) → ¬ SG 23 a k := fun a k h1 z => by have := z.1; have := z.2; omega
  have r3 : r = 3 ∨ 70 ≤ r := c.2.2.1.2.1
  have c1 : CIV h1 np pl R m Ro A I X T F pc pa pb r := by
    obtain ⟨⟨c1, n70⟩, c2, ⟨d, c4, c5⟩, c6, c7, c8, c9⟩ := c
    refine ⟨⟨c1.fr f, by rw [f.1]; exact n70⟩, c2.fv fv (nn _ _ (by omega)) (fun k => nn _ _ (by omega)), ⟨d.fv fv (fun _ _ z => z.elim) (fun j k hj => nn _ _ (by omega)) c4, c4, by rw [f.1]; exact c5⟩, c6.fv fv (fun _ _ z => z.elim) (nn _ _ (by omega)) (fun q hq _ j k hj => by
      have q3 : q = 3 ∨ 70 ≤ q := hq
      exact nn _ _ (by omega)), ⟨⟨b, GC_fr gc f fun a k z => by have := z.1; have := z.2; exact nn a k (by omega)⟩, ?_, g26, g5⟩, ?_, c9.fv fv fun a k h1 h2 => nn a k (by omega)⟩
    · obtain ⟨x, c22⟩ := c22
      exact ⟨x, c22.fr f fun k => nn 22 k (by omega)⟩
    · exact c8.fv c6 (CIV.irs p) fv (fun _ _ z => z.elim) (fun k _ => nn _ _ (by omega)) (fun k => nn _ _ (by omega)) (nn _ _ (by omega)) (fun a k h1 h2 => nn a k (by omega)) (fun k => nn _ _ (by omega)) (fun k => nn _ _ (by omega)) (fun q hq _ j k hj => by
        have q3 : q = 3 ∨ 70 ≤ q := hq
        exact nn _ _ (by omega))
  have s1 : MIV h1 np pl R m Ro A I X T F pc pa pb := s.cl fun a k q1 q2 => ⟨f.ci (nn _ _ (by omega)), f.cl (nn _ _ (by omega))⟩
  refine ⟨rfl, ((m_111 c1.1.1 s1.2.2.2.1.1).2 _).mpr ⟨rfl, INV_0 p c1 s1 (o.fr f) 0, ?_, ?_⟩⟩
  · show ah_n h1 ≤ ah_n h + 17; rw [f.1]; omega
  · show ah_u h1 ≤ ah_u h + 80; rw [f.2.1]; omega
theorem d_19n (hp : SHP h) {b : Bool} (gc : GC h 19 (A, I, b)) {i : Int32} (hi : ¬ vp_in i I.length) : TC sc (d + 2) 19 [.ref 0, .int i] h Q ↔ Q (.inr 2) (ap_n h 30 0 6) := TC_of (fun Q hq => by
  have i3 : ah_i h 19 3 = nI I.length := gc.2.1.1
  have i60 : I.length ≤ 60 := gc.2.1.2.1
  rcases outN hi (by omega) with e | ⟨e1, e2, e3⟩
  · refine TC_e (ls := [.ref 0, .int i]) (Nat.le_of_ble_eq_true rfl) rfl (wx_sound (S := []) 20 true _ _ _ _ ?_)
    simp +contextual (disch := omega) only [K19, wx_t, wx_g, wJ_t, wJ_f, wI_s, CI, CL, C01, aftC_v, aftC_n, true_or, or_true, true_and, and_true, inS_n, inS_c, pI_c, pL_c, pA_c, pV_c, pE_c, pQ_s, pQ_n, pQ_r, cm_eq', cm_ne', cm_lt', cm_ge', cm_gt', cm_le', List.getD_cons_zero, List.getD_cons_succ, Nat.reduceAdd, Nat.reduceBEq, Bool.false_or, Bool.or_false, Bool.true_or, Int.reduceToNat, s_iload, s_lload, s_aload, s_istore, s_astore, s_lstore, s_iconst, s_sipush, s_aconst_null, s_iadd, s_isub, s_imul, s_iand, s_ior, s_ixor, s_idiv, s_irem, s_ishl, s_ishr, s_iushr, s_ladd, s_lsub, s_land, s_lor, s_lxor, s_lneg, s_lshl, s_lshr, s_lushr, s_i2l, s_l2i, s_lcmp, s_dup, s_pop, s_dup2, s_i2c, s_i2s, s_monitorenter, s_ifCond, s_if_icmp, s_ifnull, s_goto, s_iinc, s_tableswitch, s_ireturn, s_freturn, s_lreturn, s_areturn, s_return_, s_ldc, s_getfield, s_putfield, s_iaload, s_iastore, s_laload, s_lastore, s_baload, s_bastore, s_aaload, s_aastore, s_arraylength, s_newarray, s_anewarray, s_new, s_invokestatic, s_invokespecial, s_invokevirtual, fvl_0, fvl_1, fvl_2, fvl_3, fp_0, fp_1, fp_2, fp_3, rf_s, rf_n, isRf_b, knw_b, isLg_b, popA_0, popA_s, st1_0, st1_s, st2_e, set_0, set_s, aftC_e, hxP_s, hxP_n, iteF, iteT, bft, im_t, im_f, nt_f, nt_t, Nat.reduceDiv, Nat.reduceMod, Nat.reduceLeDiff, Nat.reduceLT, Nat.reduceEqDiff, List.length_cons, List.length_nil, Nat.zero_add, Nat.reduceSub, List.cons_append, List.nil_append, ak_i, az_i, ar_i, al_i, ai_i, ak_l, az_l, ar_l, al_l, ai_l, ak_r, az_r, ar_r, al_r, ai_r, pk_m1, reduceCtorEq, msk_tb, mskL, Bool.and_eq_true, decide_eq_true_eq, lg_0, lg_t, lg_g, lg_e, lg_l, tb_z, Nat.mod_eq_of_lt, lN_1s, and_ze, brT, brF, brN, vpT, a4095, a63, nI_e, nI_l', nI_t', dif_z, and_z, and_zr, lN_e, nI_clamp, nx_shr, Nat.reducePow, bI_0, bI_1, bI_z, bI_o, bI_or, n01, nI_add, pk_mul, nx_and, nx_or, nx_dif, lx_and, lx_or, lx_dif, Bool.not_eq_true, Bool.not_eq_false, Bool.true_eq_false, Bool.false_eq_true, ss_0 hp, ss_19 hp, i3, e]
    exact hq
  · refine TC_e (ls := [.ref 0, .int i]) (Nat.le_of_ble_eq_true rfl) rfl (wx_sound (S := []) 20 true _ _ _ _ ?_)
    simp +contextual (disch := omega) only [K19, wx_t, wx_g, wJ_t, wJ_f, wI_s, CI, CL, C01, aftC_v, aftC_n, true_or, or_true, true_and, and_true, inS_n, inS_c, pI_c, pL_c, pA_c, pV_c, pE_c, pQ_s, pQ_n, pQ_r, cm_eq', cm_ne', cm_lt', cm_ge', cm_gt', cm_le', List.getD_cons_zero, List.getD_cons_succ, Nat.reduceAdd, Nat.reduceBEq, Bool.false_or, Bool.or_false, Bool.true_or, Int.reduceToNat, s_iload, s_lload, s_aload, s_istore, s_astore, s_lstore, s_iconst, s_sipush, s_aconst_null, s_iadd, s_isub, s_imul, s_iand, s_ior, s_ixor, s_idiv, s_irem, s_ishl, s_ishr, s_iushr, s_ladd, s_lsub, s_land, s_lor, s_lxor, s_lneg, s_lshl, s_lshr, s_lushr, s_i2l, s_l2i, s_lcmp, s_dup, s_pop, s_dup2, s_i2c, s_i2s, s_monitorenter, s_ifCond, s_if_icmp, s_ifnull, s_goto, s_iinc, s_tableswitch, s_ireturn, s_freturn, s_lreturn, s_areturn, s_return_, s_ldc, s_getfield, s_putfield, s_iaload, s_iastore, s_laload, s_lastore, s_baload, s_bastore, s_aaload, s_aastore, s_arraylength, s_newarray, s_anewarray, s_new, s_invokestatic, s_invokespecial, s_invokevirtual, fvl_0, fvl_1, fvl_2, fvl_3, fp_0, fp_1, fp_2, fp_3, rf_s, rf_n, isRf_b, knw_b, isLg_b, popA_0, popA_s, st1_0, st1_s, st2_e, set_0, set_s, aftC_e, hxP_s, hxP_n, iteF, iteT, bft, im_t, im_f, nt_f, nt_t, Nat.reduceDiv, Nat.reduceMod, Nat.reduceLeDiff, Nat.reduceLT, Nat.reduceEqDiff, List.length_cons, List.length_nil, Nat.zero_add, Nat.reduceSub, List.cons_append, List.nil_append, ak_i, az_i, ar_i, al_i, ai_i, ak_l, az_l, ar_l, al_l, ai_l, ak_r, az_r, ar_r, al_r, ai_r, pk_m1, reduceCtorEq, msk_tb, mskL, Bool.and_eq_true, decide_eq_true_eq, lg_0, lg_t, lg_g, lg_e, lg_l, tb_z, Nat.mod_eq_of_lt, lN_1s, and_ze, brT, brF, brN, vpT, a4095, a63, nI_e, nI_l', nI_t', dif_z, and_z, and_zr, lN_e, nI_clamp, nx_shr, Nat.reducePow, bI_0, bI_1, bI_z, bI_o, bI_or, n01, nI_add, pk_mul, nx_and, nx_or, nx_dif, lx_and, lx_or, lx_dif, Bool.not_eq_true, Bool.not_eq_false, Bool.true_eq_false, Bool.false_eq_true, ss_0 hp, ss_19 hp, i3, e1, e2, e3]
    exact hq) Q
theorem d_19 (hp : SHP h) {b : Bool} (gc : GC h 19 (A, I, b)) {i : Nat} (hi : i < I.length) : TC sc (d + 2) 19 [.ref 0, .int (nI i)] h Q ↔ Q (.inl (some (.int (nI (lat I i))))) h := TC_of (fun Q hq => by
  have i3 : ah_i h 19 3 = nI I.length := gc.2.1.1
  have i60 : I.length ≤ 60 := gc.2.1.2.1
  have k187 : ∀ Q, TC sc (d + 1) 187 [.ref 19, .int (nI i)] h Q ↔ Q (.inl (some (.int (nI (lat I i))))) h := fun Q => c_187 (gs_19 hp) gc.2.1 hi
  refine TC_e (ls := [.ref 0, .int (nI i)]) (Nat.le_of_ble_eq_true rfl) rfl (wx_sound (S := []) 20 true _ _ _ _ ?_)
  simp +contextual (disch := omega) only [K19, wx_t, wx_g, wJ_t, wJ_f, wI_s, CI, CL, C01, aftC_v, aftC_n, true_or, or_true, true_and, and_true, inS_n, inS_c, pI_c, pL_c, pA_c, pV_c, pE_c, pQ_s, pQ_n, pQ_r, cm_eq', cm_ne', cm_lt', cm_ge', cm_gt', cm_le', List.getD_cons_zero, List.getD_cons_succ, Nat.reduceAdd, Nat.reduceBEq, Bool.false_or, Bool.or_false, Bool.true_or, Int.reduceToNat, s_iload, s_lload, s_aload, s_istore, s_astore, s_lstore, s_iconst, s_sipush, s_aconst_null, s_iadd, s_isub, s_imul, s_iand, s_ior, s_ixor, s_idiv, s_irem, s_ishl, s_ishr, s_iushr, s_ladd, s_lsub, s_land, s_lor, s_lxor, s_lneg, s_lshl, s_lshr, s_lushr, s_i2l, s_l2i, s_lcmp, s_dup, s_pop, s_dup2, s_i2c, s_i2s, s_monitorenter, s_ifCond, s_if_icmp, s_ifnull, s_goto, s_iinc, s_tableswitch, s_ireturn, s_freturn, s_lreturn, s_areturn, s_return_, s_ldc, s_getfield, s_putfield, s_iaload, s_iastore, s_laload, s_lastore, s_baload, s_bastore, s_aaload, s_aastore, s_arraylength, s_newarray, s_anewarray, s_new, s_invokestatic, s_invokespecial, s_invokevirtual, fvl_0, fvl_1, fvl_2, fvl_3, fp_0, fp_1, fp_2, fp_3, rf_s, rf_n, isRf_b, knw_b, isLg_b, popA_0, popA_s, st1_0, st1_s, st2_e, set_0, set_s, aftC_e, hxP_s, hxP_n, iteF, iteT, bft, im_t, im_f, nt_f, nt_t, Nat.reduceDiv, Nat.reduceMod, Nat.reduceLeDiff, Nat.reduceLT, Nat.reduceEqDiff, List.length_cons, List.length_nil, Nat.zero_add, Nat.reduceSub, List.cons_append, List.nil_append, ak_i, az_i, ar_i, al_i, ai_i, ak_l, az_l, ar_l, al_l, ai_l, ak_r, az_r, ar_r, al_r, ai_r, pk_m1, reduceCtorEq, msk_tb, mskL, Bool.and_eq_true, decide_eq_true_eq, lg_0, lg_t, lg_g, lg_e, lg_l, tb_z, Nat.mod_eq_of_lt, lN_1s, and_ze, brT, brF, brN, vpT, a4095, a63, nI_e, nI_l', nI_t', dif_z, and_z, and_zr, lN_e, nI_clamp, nx_shr, Nat.reducePow, bI_0, bI_1, bI_z, bI_o, bI_or, n01, nI_add, pk_mul, nx_and, nx_or, nx_dif, lx_and, lx_or, lx_dif, Bool.not_eq_true, Bool.not_eq_false, Bool.true_eq_false, Bool.false_eq_true, ss_0 hp, ss_19 hp, i3, k187]
  exact hq) Q
theorem m_113 (hp : SHP h) (g : MG h A I) {i : Nat} (hi : i < I.length) : TC sc (d + 3) 113 [.ref 49, .int (nI i)] h Q ↔ Q (.inl (some (.int (nI (lat I i))))) (ap_i h 49 0 (nI 0)) := TC_of (fun Q hq => by
  have i60 := g.2.2.1
  have i15 := g.2.1
  obtain ⟨t1, t2, t3⟩ := g.2.2.2 i hi
  have k62 : ∀ Q : Rs → AH → Prop, TC sc (d + 2) 62 [.int (nI i), .int (nI 0), .int (nI I.length - nI 1)] h Q ↔ Q (.inl (some (.int (bI true)))) h := fun Q => by
    rw [m_62, in_vp (by omega), bP_of (vp_in_nI hi (by omega))]
  have e : 10000 * (lat I i / 10000) + lat I i % 10000 = lat I i := Nat.div_add_mod _ _
  refine TC_e (ls := [.ref 49, .int (nI i)]) (Nat.le_of_ble_eq_true rfl) rfl (wx_sound (S := []) 40 true _ _ _ _ ?_)
  simp +contextual (disch := omega) only [K113, wx_t, wx_g, wJ_t, wJ_f, wI_s, CI, CL, C01, aftC_v, aftC_n, true_or, or_true, true_and, and_true, inS_n, inS_c, pI_c, pL_c, pA_c, pV_c, pE_c, pQ_s, pQ_n, pQ_r, cm_eq', cm_ne', cm_lt', cm_ge', cm_gt', cm_le', List.getD_cons_zero, List.getD_cons_succ, Nat.reduceAdd, Nat.reduceBEq, Bool.false_or, Bool.or_false, Bool.true_or, Int.reduceToNat, s_iload, s_lload, s_aload, s_istore, s_astore, s_lstore, s_iconst, s_sipush, s_aconst_null, s_iadd, s_isub, s_imul, s_iand, s_ior, s_ixor, s_idiv, s_irem, s_ishl, s_ishr, s_iushr, s_ladd, s_lsub, s_land, s_lor, s_lxor, s_lneg, s_lshl, s_lshr, s_lushr, s_i2l, s_l2i, s_lcmp, s_dup, s_pop, s_dup2, s_i2c, s_i2s, s_monitorenter, s_ifCond, s_if_icmp, s_ifnull, s_goto, s_iinc, s_tableswitch, s_ireturn, s_freturn, s_lreturn, s_areturn, s_return_, s_ldc, s_getfield, s_putfield, s_iaload, s_iastore, s_laload, s_lastore, s_baload, s_bastore, s_aaload, s_aastore, s_arraylength, s_newarray, s_anewarray, s_new, s_invokestatic, s_invokespecial, s_invokevirtual, fvl_0, fvl_1, fvl_2, fvl_3, fp_0, fp_1, fp_2, fp_3, rf_s, rf_n, isRf_b, knw_b, isLg_b, popA_0, popA_s, st1_0, st1_s, st2_e, set_0, set_s, aftC_e, hxP_s, hxP_n, iteF, iteT, bft, im_t, im_f, nt_f, nt_t, Nat.reduceDiv, Nat.reduceMod, Nat.reduceLeDiff, Nat.reduceLT, Nat.reduceEqDiff, List.length_cons, List.length_nil, Nat.zero_add, Nat.reduceSub, List.cons_append, List.nil_append, ak_i, az_i, ar_i, al_i, ai_i, ak_l, az_l, ar_l, al_l, ai_l, ak_r, az_r, ar_r, al_r, ai_r, pk_m1, reduceCtorEq, msk_tb, mskL, Bool.and_eq_true, decide_eq_true_eq, lg_0, lg_t, lg_g, lg_e, lg_l, tb_z, Nat.mod_eq_of_lt, lN_1s, and_ze, brT, brF, brN, vpT, a4095, a63, nI_e, nI_l', nI_t', dif_z, and_z, and_zr, lN_e, nI_clamp, nx_shr, Nat.reducePow, bI_0, bI_1, bI_z, bI_o, bI_or, n01, nI_add, pk_mul, nx_and, nx_or, nx_dif, lx_and, lx_or, lx_dif, Bool.not_eq_true, Bool.not_eq_false, Bool.true_eq_false, Bool.false_eq_true, ss_49 hp, i15, k62, bq, m_61z hp, t1, t2, e, false_and, if_false, ofN]
  exact hq) Q
/-- 18: instance -/
theorem op_18 (iv : INVA h) (p0 : Int32) : opI sc 265 113 [.ref 0, .int p0, .ref 69] [.ref 49, .int p0] h := by
  obtain ⟨np, pl, R, m, Ro, A, I, X, T, F, pc, pa, pb, r, p, c, s, o⟩ := iv
  have hp := c.1.1
  have n70 := c.1.2
  have W := fun Q => w_265 (sc := sc) (d := 59) (h := h) (Q := Q) hp p0
  obtain ⟨b, gc⟩ := c.2.2.2.2.1.1
  have i60 : I.length ≤ 60 := gc.2.1.2.1
  by_cases h1 : vp_in p0 I.length
  · obtain ⟨i, hi, rfl⟩ := vp_in_of h1 (by omega)
    have f := @f69 h (nI (lat I i)).toInt64
    obtain ⟨c2, s2, o2, n2, u2⟩ := Q_mid p c s o (Or.inl f)
    refine opI_ok W (fun Q => d_19 hp gc hi) (fun Q => m_113 c2.1.1 s2.2.2.2.1.1 hi) o l69 ai_y ⟨INV_0 p c2 s2 o2 0, ?_, ?_⟩
    · show ah_n h ≤ ah_n h + 17; omega
    · show ah_u h ≤ ah_u h + 80; omega
  · obtain ⟨c2, s2, o2, n2, u2⟩ := Q_mid p c s o (Or.inr rfl)
    have mq := MIV.mq p c2 s2
    exact opI_ref (E := 2) (k := 1) W (by omega) (by omega) (fun Q => d_19n hp gc h1) (fun Q => m_113n mq.1 h1) o n70 (INV_th p c s o 1)
end OPS
