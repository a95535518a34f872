/-! THE CLASS RESOLVES ITS INSTANCES -/
def S25 : Nat → Nat → Prop := fun a j => a = 31 ∧ 11 ≤ j ∨ 33 ≤ a ∧ a ≤ 42
def V32 : Nat → Nat → Prop := fun a _ => a = 32
theorem v32_0 : ∀ a j, V32 a j → V0 a j := fun a j z => Or.inl z
theorem s25_w {r : Nat} (p : rpl r) : ∀ j i, j < 16 → ¬ S25 (r + j) i := fun j i hj z => by
  unfold S25 at z
  unfold rpl at p
  omega
theorem RA.fv {h h' : AH} {m : Nat} {Ro : Nat → RW} {S : Nat → Nat → Prop} (a : RA h 2 m Ro) (f : FV h h' S V32) (w : ∀ r, rpl r → ∀ j k, j < 16 → ¬ S (r + j) k) : RA h' 2 m Ro := by
  obtain ⟨a1, a2, a3, a4⟩ := a
  refine ⟨by rw [f.2.2.1]; exact a1, by rw [f.2.2.2.1]; exact a2, a3, fun n hn => ?_⟩
  obtain ⟨r, r1, r2, r3⟩ := a4 n hn
  exact ⟨r, by rw [f.cr (fun z => absurd (show 2 = 32 from z) (by decide))]; exact r1, r2.fv f v32_0 (w r r3) r3, r3⟩
theorem RU.i {h : AH} {r i : Nat} {R : RW} {P : PG} (u : RU h r R) (e1 : P_kd P i = R_kd R) (e2 : P_gv P i = R_gv R) (e3 : P_hs P i = R_su R) (e4 : P_lo P i = R_lo R) (e5 : P_hi P i = R_hi R) : RuI h r P i := by
  obtain ⟨rs, rc, rl, ro⟩ := u
  unfold RuI
  rw [e1, e2, e3, e4, e5]
  have s10 := rs.2.2.2.2.2.2.2.2.2.2
  exact ⟨rs.1, rs.2.1, rs.2.2.2.2.2.2.2.2.1, rs.2.2.2.2.2.1, s10.1, rc.1, rc.2.1, rc.2.2.1, rc.2.2.2.1, rc.2.2.2.2.2.2.1⟩
/-- the first instances are resolved -/
def Rk (h h1 : AH) (P : PG) (I : List Nat) (k : Nat) : Prop := ah_i h1 31 12 = nI k ∧ ah_l h1 31 13 = lN (msk k fun i => decide (P_kd P i = 0)) ∧ ah_l h1 31 14 = lN (msk k fun i => decide (P_kd P i = 1)) ∧ ah_l h1 31 16 = lN (msk k fun i => decide (P_kd P i = 2)) ∧ ah_l h1 31 17 = lN (msk k fun i => decide (P_kd P i = 3)) ∧ ah_l h1 31 15 = lN (msk k (P_hs P)) ∧
  ∀ i, i < k → ah_r h1 32 i = ah_r h 2 (irl I i) ∧ ah_i h1 33 i = nI (P_hd P i) ∧ ah_i h1 34 i = nI (P_nd P i) ∧ ah_i h1 35 i = nI (P_bn P i) ∧ (P_hs P i = true → ∀ a, a < 12 → ah_l h1 36 (i * 12 + a) = P_wt P i a)
theorem Rk.next {h h1 h2 h3 : AH} {P : PG} {A I : List Nat} {k r : Nat} {R : RW} (a : Rk h h1 P I k) (f : FR h1 h2 fun a _ => a = 42) (c : R207 h2 r k R (ict I k) A (msk k fun i => decide (P_kd P i = 0)) (msk k fun i => decide (P_kd P i = 1)) (msk k fun i => decide (P_kd P i = 2)) (msk k fun i => decide (P_kd P i = 3)) (msk k (P_hs P)) h3) (hr : ah_r h 2 (irl I k) = some r)
    (e1 : P_kd P k = R_kd R) (e3 : P_hs P k = R_su R) (d0 : P_hd P k = lmk R 0 (ict I k) A (R_n R 0)) (d1 : P_nd P k = lmk R 1 (ict I k) A (R_n R 1)) (d2 : P_bn P k = lmk R 2 (ict I k) A (R_n R 2)) (d3 : ∀ a, P_wt P k a = wkk R (ict I k) A a (R_n R 4)) : Rk h h3 P I (k + 1) := by
  obtain ⟨a1, a2, a3, a4, a5, a6, a7⟩ := a
  obtain ⟨c1, c2, c3, c4, c5, c6, c7, c8, c9, c10, c11, c12, c13⟩ := c
  refine ⟨c6, ?_, ?_, ?_, ?_, ?_, fun i hi => ?_⟩
  · rw [c7, msk_n, ← e1]; simp only [decide_eq_true_eq]
  · rw [c8, msk_n, ← e1]; simp only [decide_eq_true_eq]
  · rw [c9, msk_n, ← e1]; simp only [decide_eq_true_eq]
  · rw [c10, msk_n, ← e1]; simp only [decide_eq_true_eq]
  · rw [c11, msk_n, ← e3]
  · by_cases q : i = k
    · subst q
      rw [d0, d1, d2, hr]
      exact ⟨c2, c3, c4, c5, fun z a ha => by rw [d3]; exact c12 (e3 ▸ z) a ha⟩
    · obtain ⟨b1, b2, b3, b4, b5⟩ := a7 i (by omega)
      refine ⟨?_, ?_, ?_, ?_, fun z a ha => ?_⟩
      · rw [c1.cr (fun z => q z.2), f.k.2.2]; exact b1
      · rw [c1.ci (fun z => by unfold S7 at z; omega), f.ci (by omega)]; exact b2
      · rw [c1.ci (fun z => by unfold S7 at z; omega), f.ci (by omega)]; exact b3
      · rw [c1.ci (fun z => by unfold S7 at z; omega), f.ci (by omega)]; exact b4
      · rw [c13 _ (by omega), f.cl (by omega)]; exact b5 z a ha
section CLS
variable {sc : (Nat → Int32) × Nat} {d : Nat} {h : AH} {m : Nat} {Ro : Nat → RW} {A I : List Nat} {b : Bool}
theorem c_205 (hp : SHP h) (ra : RA h 2 m Ro) (gc : GC h 19 (A, I, b)) (ir : irs Ro m A I) : TC sc (d + 8) 205 [.ref 31, .ref 19, .ref 2] h fun w h' => w = .inl none ∧ FV h h' S25 V32 ∧ CP h' (PGo Ro A I) ∧ ∀ i, i < I.length → ah_r h' 32 i = ah_r h 2 (irl I i) := by
  generalize hQ : (fun (w : Rs) (h' : AH) => w = .inl none ∧ FV h h' S25 V32 ∧ CP h' (PGo Ro A I) ∧ ∀ i, i < I.length → ah_r h' 32 i = ah_r h 2 (irl I i)) = Q
  have a12 : A.length ≤ 12 := gc.1.2.1
  have i60 : I.length ≤ 60 := gc.2.1.2.1
  have m20 := ra.2.2.1
  have ok : P_ok (PGo Ro A I) := PGo_ok (m := m) ⟨m20, fun n hn => by
    obtain ⟨r, r1, r2, r3⟩ := ra.2.2.2 n hn
    exact r2.2.2.2⟩ a12 i60 ir
  have fx : ∀ h1, FV h h1 S25 V32 → SHP h1 ∧ RA h1 2 m Ro ∧ GC h1 19 (A, I, b) := fun h1 f => ⟨hp.fv f v32_0, ra.fv f (fun r p => s25_w p), gc.fv f fun a j z y => by have := z.1; have := z.2; unfold S25 at y; omega⟩
  have fin : ∀ h1 x3 x4 x5 x6, FV h h1 S25 V32 → ah_i h1 31 11 = nI A.length → Rk h h1 (PGo Ro A I) I I.length → TT sc (d + 7) 205 Q 62 [.ref 31, .ref 19, .ref 2, x3, x4, x5, x6] [] h1 := by
    intro h1 x3 x4 x5 x6 f1 n1 R1
    obtain ⟨hp1, ra1, gc1⟩ := fx h1 f1
    obtain ⟨b1, b2, b3, b4, b5, b6, b7⟩ := R1
    have rp : RPI h1 (PGo Ro A I) := ⟨n1, b1, b2, b3, b6, b4, b5, fun i hi => by
      obtain ⟨v1, v2, v3, v4, v5⟩ := b7 i hi
      obtain ⟨hn, _⟩ := ir i hi
      obtain ⟨r, r1, r2, r3⟩ := ra1.2.2.2 _ hn
      have r0 : ah_r h 2 (irl I i) = some r := (f1.cr (fun z => absurd (show 2 = 32 from z) (by decide))).symm.trans r1
      exact ⟨v2, v3, v4, fun q a ha => v5 q a (Nat.lt_of_lt_of_le ha a12), r, v1.trans r0, r2.i rfl rfl rfl rfl rfl⟩⟩
    refine wx_sound (S := [24]) 6 true _ _ _ _ ?_
    simp +contextual (disch := omega) only [K205, wx_t, wx_g, wJ_t, wJ_f, wI_s, CI, CL, C01, aftC_v, aftC_n, true_or, or_true, true_and, and_true, inS_n, inS_c, pI_c, pL_c, pA_c, pV_c, pE_c, pQ_s, pQ_n, pQ_r, cm_eq', cm_ne', cm_lt', cm_ge', cm_gt', cm_le', List.getD_cons_zero, List.getD_cons_succ, Nat.reduceAdd, Nat.reduceBEq, Bool.false_or, Bool.or_false, Bool.true_or, Int.reduceToNat, s_iload, s_lload, s_aload, s_istore, s_astore, s_lstore, s_iconst, s_sipush, s_aconst_null, s_iadd, s_isub, s_imul, s_iand, s_ior, s_ixor, s_idiv, s_irem, s_ishl, s_ishr, s_iushr, s_ladd, s_lsub, s_land, s_lor, s_lxor, s_lneg, s_lshl, s_lshr, s_lushr, s_i2l, s_l2i, s_lcmp, s_dup, s_pop, s_dup2, s_i2c, s_i2s, s_monitorenter, s_ifCond, s_if_icmp, s_ifnull, s_goto, s_iinc, s_tableswitch, s_ireturn, s_freturn, s_lreturn, s_areturn, s_return_, s_ldc, s_getfield, s_putfield, s_iaload, s_iastore, s_laload, s_lastore, s_baload, s_bastore, s_aaload, s_aastore, s_arraylength, s_newarray, s_anewarray, s_new, s_invokestatic, s_invokespecial, s_invokevirtual, fvl_0, fvl_1, fvl_2, fvl_3, fp_0, fp_1, fp_2, fp_3, rf_s, rf_n, isRf_b, knw_b, isLg_b, popA_0, popA_s, st1_0, st1_s, st2_e, set_0, set_s, aftC_e, hxP_s, hxP_n, iteF, iteT, bft, im_t, im_f, nt_f, nt_t, Nat.reduceDiv, Nat.reduceMod, Nat.reduceLeDiff, Nat.reduceLT, Nat.reduceEqDiff, List.length_cons, List.length_nil, Nat.zero_add, Nat.reduceSub, List.cons_append, List.nil_append, ak_i, az_i, ar_i, al_i, ai_i, ak_l, az_l, ar_l, al_l, ai_l, ak_r, az_r, ar_r, al_r, ai_r, pk_m1, reduceCtorEq, msk_tb, mskL, Bool.and_eq_true, decide_eq_true_eq, lg_0, lg_t, lg_g, lg_e, lg_l, tb_z, Nat.mod_eq_of_lt, lN_1s, and_ze, brT, brF, brN, vpT, a4095, a63, nI_e, nI_l', nI_t', dif_z, and_z, and_zr, lN_e, nI_clamp, nx_shr, Nat.reducePow, bI_0, bI_1, bI_z, bI_o, bI_or, n01, nI_add, pk_mul, nx_and, nx_or, nx_dif, lx_and, lx_or, lx_dif, Bool.not_eq_true, Bool.not_eq_false, Bool.true_eq_false, Bool.false_eq_true, ss_31 hp1]
    refine TC_mono (c_213 hp1 rp ok) ?_
    rintro q h2 ⟨rfl, f2, T2⟩
    have hp2 := hp1.fr f2
    have rp2 := rp.fr hp1 f2 fun a k z => by unfold S38 at z; omega
    simp +contextual (disch := omega) only [K205, wx_t, wx_g, wJ_t, wJ_f, wI_s, CI, CL, C01, aftC_v, aftC_n, true_or, or_true, true_and, and_true, inS_n, inS_c, pI_c, pL_c, pA_c, pV_c, pE_c, pQ_s, pQ_n, pQ_r, cm_eq', cm_ne', cm_lt', cm_ge', cm_gt', cm_le', List.getD_cons_zero, List.getD_cons_succ, Nat.reduceAdd, Nat.reduceBEq, Bool.false_or, Bool.or_false, Bool.true_or, Int.reduceToNat, s_iload, s_lload, s_aload, s_istore, s_astore, s_lstore, s_iconst, s_sipush, s_aconst_null, s_iadd, s_isub, s_imul, s_iand, s_ior, s_ixor, s_idiv, s_irem, s_ishl, s_ishr, s_iushr, s_ladd, s_lsub, s_land, s_lor, s_lxor, s_lneg, s_lshl, s_lshr, s_lushr, s_i2l, s_l2i, s_lcmp, s_dup, s_pop, s_dup2, s_i2c, s_i2s, s_monitorenter, s_ifCond, s_if_icmp, s_ifnull, s_goto, s_iinc, s_tableswitch, s_ireturn, s_freturn, s_lreturn, s_areturn, s_return_, s_ldc, s_getfield, s_putfield, s_iaload, s_iastore, s_laload, s_lastore, s_baload, s_bastore, s_aaload, s_aastore, s_arraylength, s_newarray, s_anewarray, s_new, s_invokestatic, s_invokespecial, s_invokevirtual, fvl_0, fvl_1, fvl_2, fvl_3, fp_0, fp_1, fp_2, fp_3, rf_s, rf_n, isRf_b, knw_b, isLg_b, popA_0, popA_s, st1_0, st1_s, st2_e, set_0, set_s, aftC_e, hxP_s, hxP_n, iteF, iteT, bft, im_t, im_f, nt_f, nt_t, Nat.reduceDiv, Nat.reduceMod, Nat.reduceLeDiff, Nat.reduceLT, Nat.reduceEqDiff, List.length_cons, List.length_nil, Nat.zero_add, Nat.reduceSub, List.cons_append, List.nil_append, ak_i, az_i, ar_i, al_i, ai_i, ak_l, az_l, ar_l, al_l, ai_l, ak_r, az_r, ar_r, al_r, ai_r, pk_m1, reduceCtorEq, msk_tb, mskL, Bool.and_eq_true, decide_eq_true_eq, lg_0, lg_t, lg_g, lg_e, lg_l, tb_z, Nat.mod_eq_of_lt, lN_1s, and_ze, brT, brF, brN, vpT, a4095, a63, nI_e, nI_l', nI_t', dif_z, and_z, and_zr, lN_e, nI_clamp, nx_shr, Nat.reducePow, bI_0, bI_1, bI_z, bI_o, bI_or, n01, nI_add, pk_mul, nx_and, nx_or, nx_dif, lx_and, lx_or, lx_dif, Bool.not_eq_true, Bool.not_eq_false, Bool.true_eq_false, Bool.false_eq_true, ss_31 hp2]
    refine TC_mono (c_214 hp2 rp2 ok fun p hp => ⟨(T2 p hp).2.2.1, (T2 p hp).2.2.2⟩) ?_
    rintro q h3 ⟨rfl, f3, T3⟩
    have rp3 := rp2.fr hp2 f3 fun a k z => by have : a = 37 := z; omega
    have z : Q (.inl none) h3 := by
      rw [← hQ]
      refine ⟨rfl, (f1.trans (f2.v _) (fun a j z => Or.inr (by unfold S38 at z; omega)) fun _ _ z => z).trans (f3.v _) (fun a j z => Or.inr (by have : a = 37 := z; omega)) fun _ _ z => z, ⟨hp2.fr f3, ⟨rp3, T3, fun p hp => ?_⟩, ok⟩, fun i hi => by rw [f3.k.2.2, f2.k.2.2]; exact (b7 i hi).1⟩
      rw [f3.cl (fun z => absurd (show 38 = 37 from z) (by decide)), f3.cl (fun z => absurd (show 39 = 37 from z) (by decide))]
      exact ⟨(T2 p hp).1, (T2 p hp).2.1⟩
    simp +contextual (disch := omega) only [K205, wx_t, wx_g, wJ_t, wJ_f, wI_s, CI, CL, C01, aftC_v, aftC_n, true_or, or_true, true_and, and_true, inS_n, inS_c, pI_c, pL_c, pA_c, pV_c, pE_c, pQ_s, pQ_n, pQ_r, cm_eq', cm_ne', cm_lt', cm_ge', cm_gt', cm_le', List.getD_cons_zero, List.getD_cons_succ, Nat.reduceAdd, Nat.reduceBEq, Bool.false_or, Bool.or_false, Bool.true_or, Int.reduceToNat, s_iload, s_lload, s_aload, s_istore, s_astore, s_lstore, s_iconst, s_sipush, s_aconst_null, s_iadd, s_isub, s_imul, s_iand, s_ior, s_ixor, s_idiv, s_irem, s_ishl, s_ishr, s_iushr, s_ladd, s_lsub, s_land, s_lor, s_lxor, s_lneg, s_lshl, s_lshr, s_lushr, s_i2l, s_l2i, s_lcmp, s_dup, s_pop, s_dup2, s_i2c, s_i2s, s_monitorenter, s_ifCond, s_if_icmp, s_ifnull, s_goto, s_iinc, s_tableswitch, s_ireturn, s_freturn, s_lreturn, s_areturn, s_return_, s_ldc, s_getfield, s_putfield, s_iaload, s_iastore, s_laload, s_lastore, s_baload, s_bastore, s_aaload, s_aastore, s_arraylength, s_newarray, s_anewarray, s_new, s_invokestatic, s_invokespecial, s_invokevirtual, fvl_0, fvl_1, fvl_2, fvl_3, fp_0, fp_1, fp_2, fp_3, rf_s, rf_n, isRf_b, knw_b, isLg_b, popA_0, popA_s, st1_0, st1_s, st2_e, set_0, set_s, aftC_e, hxP_s, hxP_n, iteF, iteT, bft, im_t, im_f, nt_f, nt_t, Nat.reduceDiv, Nat.reduceMod, Nat.reduceLeDiff, Nat.reduceLT, Nat.reduceEqDiff, List.length_cons, List.length_nil, Nat.zero_add, Nat.reduceSub, List.cons_append, List.nil_append, ak_i, az_i, ar_i, al_i, ai_i, ak_l, az_l, ar_l, al_l, ai_l, ak_r, az_r, ar_r, al_r, ai_r, pk_m1, reduceCtorEq, msk_tb, mskL, Bool.and_eq_true, decide_eq_true_eq, lg_0, lg_t, lg_g, lg_e, lg_l, tb_z, Nat.mod_eq_of_lt, lN_1s, and_ze, brT, brF, brN, vpT, a4095, a63, nI_e, nI_l', nI_t', dif_z, and_z, and_zr, lN_e, nI_clamp, nx_shr, Nat.reducePow, bI_0, bI_1, bI_z, bI_o, bI_or, n01, nI_add, pk_mul, nx_and, nx_or, nx_dif, lx_and, lx_or, lx_dif, Bool.not_eq_true, Bool.not_eq_false, Bool.true_eq_false, Bool.false_eq_true]
    exact z
  have lp : ∀ k, k ≤ I.length → ∀ h1, FV h h1 S25 V32 → ah_i h1 31 11 = nI A.length → Rk h h1 (PGo Ro A I) I k → ∀ x4 x5 x6, TT sc (d + 7) 205 Q 24 [.ref 31, .ref 19, .ref 2, .int (nI k), x4, x5, x6] [] h1 := by
    refine up_to fun k hk ih => ?_
    intro h1 f1 n1 R1 x4 x5 x6
    obtain ⟨hp1, ra1, gc1⟩ := fx h1 f1
    have i3 : ah_i h1 19 3 = nI I.length := gc1.2.1.1
    by_cases e : k < I.length
    · obtain ⟨hn, hr⟩ := ir k e
      obtain ⟨r, r1, r2, r3⟩ := ra1.2.2.2 _ hn
      obtain ⟨t1, t2⟩ := gc1.2.1.2.2 k e
      have t3 : lat I k < 200000 := by
        have : lat I k / 10000 < m := hn
        omega
      have k187 : ∀ Q, TC sc (d + 7) 187 [.ref 19, .int (nI k)] h1 Q ↔ Q (.inl (some (.int (nI (lat I k))))) h1 := fun Q => c_187 (gs_19 hp1) gc1.2.1 e
      have dv : nI (lat I k) / nI 10000 = nI (irl I k) := pk_div (by omega) (by decide) (by decide)
      have dz : (nI 10000 = 0) = False := eq_false (by decide)
      have c10 : Int32.ofNat 10000 = nI 10000 := rfl
      refine wx_sound (S := [24, 62]) 40 true _ _ _ _ ?_
      simp +contextual (disch := omega) only [K205, wx_t, wx_g, wJ_t, wJ_f, wI_s, CI, CL, C01, aftC_v, aftC_n, true_or, or_true, true_and, and_true, inS_n, inS_c, pI_c, pL_c, pA_c, pV_c, pE_c, pQ_s, pQ_n, pQ_r, cm_eq', cm_ne', cm_lt', cm_ge', cm_gt', cm_le', List.getD_cons_zero, List.getD_cons_succ, Nat.reduceAdd, Nat.reduceBEq, Bool.false_or, Bool.or_false, Bool.true_or, Int.reduceToNat, s_iload, s_lload, s_aload, s_istore, s_astore, s_lstore, s_iconst, s_sipush, s_aconst_null, s_iadd, s_isub, s_imul, s_iand, s_ior, s_ixor, s_idiv, s_irem, s_ishl, s_ishr, s_iushr, s_ladd, s_lsub, s_land, s_lor, s_lxor, s_lneg, s_lshl, s_lshr, s_lushr, s_i2l, s_l2i, s_lcmp, s_dup, s_pop, s_dup2, s_i2c, s_i2s, s_monitorenter, s_ifCond, s_if_icmp, s_ifnull, s_goto, s_iinc, s_tableswitch, s_ireturn, s_freturn, s_lreturn, s_areturn, s_return_, s_ldc, s_getfield, s_putfield, s_iaload, s_iastore, s_laload, s_lastore, s_baload, s_bastore, s_aaload, s_aastore, s_arraylength, s_newarray, s_anewarray, s_new, s_invokestatic, s_invokespecial, s_invokevirtual, fvl_0, fvl_1, fvl_2, fvl_3, fp_0, fp_1, fp_2, fp_3, rf_s, rf_n, isRf_b, knw_b, isLg_b, popA_0, popA_s, st1_0, st1_s, st2_e, set_0, set_s, aftC_e, hxP_s, hxP_n, iteF, iteT, bft, im_t, im_f, nt_f, nt_t, Nat.reduceDiv, Nat.reduceMod, Nat.reduceLeDiff, Nat.reduceLT, Nat.reduceEqDiff, List.length_cons, List.length_nil, Nat.zero_add, Nat.reduceSub, List.cons_append, List.nil_append, ak_i, az_i, ar_i, al_i, ai_i, ak_l, az_l, ar_l, al_l, ai_l, ak_r, az_r, ar_r, al_r, ai_r, pk_m1, reduceCtorEq, msk_tb, mskL, Bool.and_eq_true, decide_eq_true_eq, lg_0, lg_t, lg_g, lg_e, lg_l, tb_z, Nat.mod_eq_of_lt, lN_1s, and_ze, brT, brF, brN, vpT, a4095, a63, nI_e, nI_l', nI_t', dif_z, and_z, and_zr, lN_e, nI_clamp, nx_shr, Nat.reducePow, bI_0, bI_1, bI_z, bI_o, bI_or, n01, nI_add, pk_mul, nx_and, nx_or, nx_dif, lx_and, lx_or, lx_dif, Bool.not_eq_true, Bool.not_eq_false, Bool.true_eq_false, Bool.false_eq_true, ss_31 hp1, ss_19 hp1, i3, k187, dv, dz, ofN, ra1.1, ra1.2.1, r1]
      refine TC_mono (c_206 hp1 t3) ?_
      rintro q h2 ⟨rfl, f2, ca2⟩
      have f12 := f1.trans (f2.v V32) (fun a j z => Or.inr (by have : a = 42 := z; omega)) fun _ _ z => z
      obtain ⟨hp2, ra2, gc2⟩ := fx h2 f12
      have ru2 := r2.fr f2 (fun j i hj z => by have : r + j = 42 := z; unfold rpl at r3; omega)
      have s2 := ss_31 hp2
      have c42 : ∀ a j, a ≠ 42 → ah_i h2 a j = ah_i h1 a j ∧ ah_l h2 a j = ah_l h1 a j := fun a j n => ⟨f2.ci n, f2.cl n⟩
      have R2 := R1
      obtain ⟨b1, b2, b3, b4, b5, b6, b7⟩ := R2
      simp +contextual (disch := omega) only [K205, wx_t, wx_g, wJ_t, wJ_f, wI_s, CI, CL, C01, aftC_v, aftC_n, true_or, or_true, true_and, and_true, inS_n, inS_c, pI_c, pL_c, pA_c, pV_c, pE_c, pQ_s, pQ_n, pQ_r, cm_eq', cm_ne', cm_lt', cm_ge', cm_gt', cm_le', List.getD_cons_zero, List.getD_cons_succ, Nat.reduceAdd, Nat.reduceBEq, Bool.false_or, Bool.or_false, Bool.true_or, Int.reduceToNat, s_iload, s_lload, s_aload, s_istore, s_astore, s_lstore, s_iconst, s_sipush, s_aconst_null, s_iadd, s_isub, s_imul, s_iand, s_ior, s_ixor, s_idiv, s_irem, s_ishl, s_ishr, s_iushr, s_ladd, s_lsub, s_land, s_lor, s_lxor, s_lneg, s_lshl, s_lshr, s_lushr, s_i2l, s_l2i, s_lcmp, s_dup, s_pop, s_dup2, s_i2c, s_i2s, s_monitorenter, s_ifCond, s_if_icmp, s_ifnull, s_goto, s_iinc, s_tableswitch, s_ireturn, s_freturn, s_lreturn, s_areturn, s_return_, s_ldc, s_getfield, s_putfield, s_iaload, s_iastore, s_laload, s_lastore, s_baload, s_bastore, s_aaload, s_aastore, s_arraylength, s_newarray, s_anewarray, s_new, s_invokestatic, s_invokespecial, s_invokevirtual, fvl_0, fvl_1, fvl_2, fvl_3, fp_0, fp_1, fp_2, fp_3, rf_s, rf_n, isRf_b, knw_b, isLg_b, popA_0, popA_s, st1_0, st1_s, st2_e, set_0, set_s, aftC_e, hxP_s, hxP_n, iteF, iteT, bft, im_t, im_f, nt_f, nt_t, Nat.reduceDiv, Nat.reduceMod, Nat.reduceLeDiff, Nat.reduceLT, Nat.reduceEqDiff, List.length_cons, List.length_nil, Nat.zero_add, Nat.reduceSub, List.cons_append, List.nil_append, ak_i, az_i, ar_i, al_i, ai_i, ak_l, az_l, ar_l, al_l, ai_l, ak_r, az_r, ar_r, al_r, ai_r, pk_m1, reduceCtorEq, msk_tb, mskL, Bool.and_eq_true, decide_eq_true_eq, lg_0, lg_t, lg_g, lg_e, lg_l, tb_z, Nat.mod_eq_of_lt, lN_1s, and_ze, brT, brF, brN, vpT, a4095, a63, nI_e, nI_l', nI_t', dif_z, and_z, and_zr, lN_e, nI_clamp, nx_shr, Nat.reducePow, bI_0, bI_1, bI_z, bI_o, bI_or, n01, nI_add, pk_mul, nx_and, nx_or, nx_dif, lx_and, lx_or, lx_dif, Bool.not_eq_true, Bool.not_eq_false, Bool.true_eq_false, Bool.false_eq_true, s2, ru2.1.1]
      refine TC_mono (c_207 (k := k) hp2 ru2 r3 gc2 ca2 ((c42 _ _ (by omega)).1.trans b1) (by omega) ((c42 _ _ (by omega)).2.trans b2) ((c42 _ _ (by omega)).2.trans b3) ((c42 _ _ (by omega)).2.trans b4) ((c42 _ _ (by omega)).2.trans b5) ((c42 _ _ (by omega)).2.trans b6)) ?_
      rintro q h3 ⟨rfl, R3⟩
      have r0 : ah_r h 2 (irl I k) = some r := (f1.cr (fun z => absurd (show 2 = 32 from z) (by decide))).symm.trans r1
      have f13 : FV h h3 S25 V32 := f12.trans R3.1 (fun a j z => by unfold S7 at z; unfold S25; omega) fun a j z => z.1
      have z := ih e h3 f13 (by rw [R3.1.ci (fun z => by unfold S7 at z; omega), (c42 _ _ (by omega)).1]; exact n1) (R1.next f2 R3 r0 rfl rfl rfl rfl rfl fun _ => rfl)
      simp +contextual (disch := omega) only [K205, wx_t, wx_g, wJ_t, wJ_f, wI_s, CI, CL, C01, aftC_v, aftC_n, true_or, or_true, true_and, and_true, inS_n, inS_c, pI_c, pL_c, pA_c, pV_c, pE_c, pQ_s, pQ_n, pQ_r, cm_eq', cm_ne', cm_lt', cm_ge', cm_gt', cm_le', List.getD_cons_zero, List.getD_cons_succ, Nat.reduceAdd, Nat.reduceBEq, Bool.false_or, Bool.or_false, Bool.true_or, Int.reduceToNat, s_iload, s_lload, s_aload, s_istore, s_astore, s_lstore, s_iconst, s_sipush, s_aconst_null, s_iadd, s_isub, s_imul, s_iand, s_ior, s_ixor, s_idiv, s_irem, s_ishl, s_ishr, s_iushr, s_ladd, s_lsub, s_land, s_lor, s_lxor, s_lneg, s_lshl, s_lshr, s_lushr, s_i2l, s_l2i, s_lcmp, s_dup, s_pop, s_dup2, s_i2c, s_i2s, s_monitorenter, s_ifCond, s_if_icmp, s_ifnull, s_goto, s_iinc, s_tableswitch, s_ireturn, s_freturn, s_lreturn, s_areturn, s_return_, s_ldc, s_getfield, s_putfield, s_iaload, s_iastore, s_laload, s_lastore, s_baload, s_bastore, s_aaload, s_aastore, s_arraylength, s_newarray, s_anewarray, s_new, s_invokestatic, s_invokespecial, s_invokevirtual, fvl_0, fvl_1, fvl_2, fvl_3, fp_0, fp_1, fp_2, fp_3, rf_s, rf_n, isRf_b, knw_b, isLg_b, popA_0, popA_s, st1_0, st1_s, st2_e, set_0, set_s, aftC_e, hxP_s, hxP_n, iteF, iteT, bft, im_t, im_f, nt_f, nt_t, Nat.reduceDiv, Nat.reduceMod, Nat.reduceLeDiff, Nat.reduceLT, Nat.reduceEqDiff, List.length_cons, List.length_nil, Nat.zero_add, Nat.reduceSub, List.cons_append, List.nil_append, ak_i, az_i, ar_i, al_i, ai_i, ak_l, az_l, ar_l, al_l, ai_l, ak_r, az_r, ar_r, al_r, ai_r, pk_m1, reduceCtorEq, msk_tb, mskL, Bool.and_eq_true, decide_eq_true_eq, lg_0, lg_t, lg_g, lg_e, lg_l, tb_z, Nat.mod_eq_of_lt, lN_1s, and_ze, brT, brF, brN, vpT, a4095, a63, nI_e, nI_l', nI_t', dif_z, and_z, and_zr, lN_e, nI_clamp, nx_shr, Nat.reducePow, bI_0, bI_1, bI_z, bI_o, bI_or, n01, nI_add, pk_mul, nx_and, nx_or, nx_dif, lx_and, lx_or, lx_dif, Bool.not_eq_true, Bool.not_eq_false, Bool.true_eq_false, Bool.false_eq_true]
      exact z _ _ _
    · have : k = I.length := by omega
      subst this
      have z := fin h1 (.int (nI I.length)) x4 x5 x6 f1 n1 R1
      refine wx_sound (S := [24, 62]) 8 true _ _ _ _ ?_
      simp +contextual (disch := omega) only [K205, wx_t, wx_g, wJ_t, wJ_f, wI_s, CI, CL, C01, aftC_v, aftC_n, true_or, or_true, true_and, and_true, inS_n, inS_c, pI_c, pL_c, pA_c, pV_c, pE_c, pQ_s, pQ_n, pQ_r, cm_eq', cm_ne', cm_lt', cm_ge', cm_gt', cm_le', List.getD_cons_zero, List.getD_cons_succ, Nat.reduceAdd, Nat.reduceBEq, Bool.false_or, Bool.or_false, Bool.true_or, Int.reduceToNat, s_iload, s_lload, s_aload, s_istore, s_astore, s_lstore, s_iconst, s_sipush, s_aconst_null, s_iadd, s_isub, s_imul, s_iand, s_ior, s_ixor, s_idiv, s_irem, s_ishl, s_ishr, s_iushr, s_ladd, s_lsub, s_land, s_lor, s_lxor, s_lneg, s_lshl, s_lshr, s_lushr, s_i2l, s_l2i, s_lcmp, s_dup, s_pop, s_dup2, s_i2c, s_i2s, s_monitorenter, s_ifCond, s_if_icmp, s_ifnull, s_goto, s_iinc, s_tableswitch, s_ireturn, s_freturn, s_lreturn, s_areturn, s_return_, s_ldc, s_getfield, s_putfield, s_iaload, s_iastore, s_laload, s_lastore, s_baload, s_bastore, s_aaload, s_aastore, s_arraylength, s_newarray, s_anewarray, s_new, s_invokestatic, s_invokespecial, s_invokevirtual, fvl_0, fvl_1, fvl_2, fvl_3, fp_0, fp_1, fp_2, fp_3, rf_s, rf_n, isRf_b, knw_b, isLg_b, popA_0, popA_s, st1_0, st1_s, st2_e, set_0, set_s, aftC_e, hxP_s, hxP_n, iteF, iteT, bft, im_t, im_f, nt_f, nt_t, Nat.reduceDiv, Nat.reduceMod, Nat.reduceLeDiff, Nat.reduceLT, Nat.reduceEqDiff, List.length_cons, List.length_nil, Nat.zero_add, Nat.reduceSub, List.cons_append, List.nil_append, ak_i, az_i, ar_i, al_i, ai_i, ak_l, az_l, ar_l, al_l, ai_l, ak_r, az_r, ar_r, al_r, ai_r, pk_m1, reduceCtorEq, msk_tb, mskL, Bool.and_eq_true, decide_eq_true_eq, lg_0, lg_t, lg_g, lg_e, lg_l, tb_z, Nat.mod_eq_of_lt, lN_1s, and_ze, brT, brF, brN, vpT, a4095, a63, nI_e, nI_l', nI_t', dif_z, and_z, and_zr, lN_e, nI_clamp, nx_shr, Nat.reducePow, bI_0, bI_1, bI_z, bI_o, bI_or, n01, nI_add, pk_mul, nx_and, nx_or, nx_dif, lx_and, lx_or, lx_dif, Bool.not_eq_true, Bool.not_eq_false, Bool.true_eq_false, Bool.false_eq_true, ss_19 hp1, i3]
      exact z
  have n0 : ah_i h 19 1 = nI A.length := gc.1.1
  have f0 : FV h (ap_l (ap_l (ap_l (ap_l (ap_l (ap_i (ap_i h 31 11 (nI A.length)) 31 12 (nI 0)) 31 13 (lN 0)) 31 14 (lN 0)) 31 15 (lN 0)) 31 16 (lN 0)) 31 17 (lN 0)) S25 V32 := (((((((FV.refl h _ _).i (Or.inl ⟨rfl, by omega⟩)).i (Or.inl ⟨rfl, by omega⟩)).l (Or.inl ⟨rfl, by omega⟩)).l (Or.inl ⟨rfl, by omega⟩)).l (Or.inl ⟨rfl, by omega⟩)).l (Or.inl ⟨rfl, by omega⟩)).l (Or.inl ⟨rfl, by omega⟩)
  have z := lp 0 (Nat.zero_le _) _ f0 (by simp only [ai_l]; rw [ai_n (by omega), ai_y]) ⟨by simp only [ai_l]; rw [ai_y], by rw [al_l, if_neg (by omega), al_l, if_neg (by omega), al_l, if_neg (by omega), al_l, if_neg (by omega), al_l, if_pos ⟨rfl, rfl⟩]; rfl, by rw [al_l, if_neg (by omega), al_l, if_neg (by omega), al_l, if_neg (by omega), al_l, if_pos ⟨rfl, rfl⟩]; rfl, by rw [al_l, if_neg (by omega), al_l, if_pos ⟨rfl, rfl⟩]; rfl, by rw [al_l, if_pos ⟨rfl, rfl⟩]; rfl, by rw [al_l, if_neg (by omega), al_l, if_neg (by omega), al_l, if_pos ⟨rfl, rfl⟩]; rfl, fun i hi => absurd hi (Nat.not_lt_zero _)⟩ unk unk unk
  refine TC_e (ls := [.ref 31, .ref 19, .ref 2, unk, unk, unk, unk]) (Nat.le_of_ble_eq_true rfl) rfl (wx_sound (S := [24]) 40 true _ _ _ _ ?_)
  simp +contextual (disch := omega) only [K205, wx_t, wx_g, wJ_t, wJ_f, wI_s, CI, CL, C01, aftC_v, aftC_n, true_or, or_true, true_and, and_true, inS_n, inS_c, pI_c, pL_c, pA_c, pV_c, pE_c, pQ_s, pQ_n, pQ_r, cm_eq', cm_ne', cm_lt', cm_ge', cm_gt', cm_le', List.getD_cons_zero, List.getD_cons_succ, Nat.reduceAdd, Nat.reduceBEq, Bool.false_or, Bool.or_false, Bool.true_or, Int.reduceToNat, s_iload, s_lload, s_aload, s_istore, s_astore, s_lstore, s_iconst, s_sipush, s_aconst_null, s_iadd, s_isub, s_imul, s_iand, s_ior, s_ixor, s_idiv, s_irem, s_ishl, s_ishr, s_iushr, s_ladd, s_lsub, s_land, s_lor, s_lxor, s_lneg, s_lshl, s_lshr, s_lushr, s_i2l, s_l2i, s_lcmp, s_dup, s_pop, s_dup2, s_i2c, s_i2s, s_monitorenter, s_ifCond, s_if_icmp, s_ifnull, s_goto, s_iinc, s_tableswitch, s_ireturn, s_freturn, s_lreturn, s_areturn, s_return_, s_ldc, s_getfield, s_putfield, s_iaload, s_iastore, s_laload, s_lastore, s_baload, s_bastore, s_aaload, s_aastore, s_arraylength, s_newarray, s_anewarray, s_new, s_invokestatic, s_invokespecial, s_invokevirtual, fvl_0, fvl_1, fvl_2, fvl_3, fp_0, fp_1, fp_2, fp_3, rf_s, rf_n, isRf_b, knw_b, isLg_b, popA_0, popA_s, st1_0, st1_s, st2_e, set_0, set_s, aftC_e, hxP_s, hxP_n, iteF, iteT, bft, im_t, im_f, nt_f, nt_t, Nat.reduceDiv, Nat.reduceMod, Nat.reduceLeDiff, Nat.reduceLT, Nat.reduceEqDiff, List.length_cons, List.length_nil, Nat.zero_add, Nat.reduceSub, List.cons_append, List.nil_append, ak_i, az_i, ar_i, al_i, ai_i, ak_l, az_l, ar_l, al_l, ai_l, ak_r, az_r, ar_r, al_r, ai_r, pk_m1, reduceCtorEq, msk_tb, mskL, Bool.and_eq_true, decide_eq_true_eq, lg_0, lg_t, lg_g, lg_e, lg_l, tb_z, Nat.mod_eq_of_lt, lN_1s, and_ze, brT, brF, brN, vpT, a4095, a63, nI_e, nI_l', nI_t', dif_z, and_z, and_zr, lN_e, nI_clamp, nx_shr, Nat.reducePow, bI_0, bI_1, bI_z, bI_o, bI_or, n01, nI_add, pk_mul, nx_and, nx_or, nx_dif, lx_and, lx_or, lx_dif, Bool.not_eq_true, Bool.not_eq_false, Bool.true_eq_false, Bool.false_eq_true, ss_31 hp, ss_19 hp, n0]
  exact z
end CLS
