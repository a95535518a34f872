/-! GROUNDING IN THE REFERENCE: ALL CONSTANTS OF A RULE -/
/-- what is left behind the constants at hand -/
noncomputable def pst (R : RW) (n : Nat) : Nat → (Nat → Nat) → gS → gS
  | 0, _, T => T
  | j + 1, c, T => lpf (fun k S => gbd R n j (cup c (3 - j) k) S) (hR R (3 - j) - c (3 - j)) (c (3 - j) + 1) (pst R n j c T)
theorem pst_s (R : RW) (n j : Nat) (c : Nat → Nat) (T : gS) : pst R n (j + 1) c T = lpf (fun k S => gbd R n j (cup c (3 - j) k) S) (hR R (3 - j) - c (3 - j)) (c (3 - j) + 1) (pst R n j c T) := rfl
theorem pst_z {R : RW} {n : Nat} {c : Nat → Nat} {T : gS} : ∀ {j : Nat}, j ≤ 4 → (∀ u, 4 - j ≤ u → u < 4 → c u = hR R u) → pst R n j c T = T
  | 0, _, _ => rfl
  | j + 1, hj, h => by
    rw [pst_s, h (3 - j) (by omega) (by omega), Nat.sub_self]
    show pst R n j c T = T
    exact pst_z (by omega) fun u h1 h2 => h u (by omega) h2
theorem gbd_p {R : RW} {n : Nat} (o : R_ok 6 R) {c : Nat → Nat} {S : gS} : ∀ {j : Nat}, j ≤ 4 → (∀ u, 4 - j ≤ u → u < 4 → c u = loR R u) → gbd R n j c S = pst R n j c (gst R n (cl4 c) S)
  | 0, _, _ => rfl
  | j + 1, hj, h => by
    have lo := (loR_le (R := R) (v := 3 - j) o (by omega)).1
    rw [gbd_s, pst_s, h (3 - j) (by omega) (by omega), show hR R (3 - j) + 1 - loR R (3 - j) = (hR R (3 - j) - loR R (3 - j)) + 1 by omega, lpf_s]
    have e : gbd R n j (cup c (3 - j) (loR R (3 - j))) S = pst R n j c (gst R n (cl4 c) S) := by
      rw [← gbd_p o (j := j) (by omega) fun u h1 h2 => h u (by omega) h2]
      refine gbd_cg R n (by omega) fun u hu => ?_
      unfold cup
      by_cases q : u = 3 - j
      · rw [if_pos q, q]; exact (h _ (by omega) (by omega)).symm
      · rw [if_neg q]
    rw [e]
theorem pst_f {R : RW} {n : Nat} {c : Nat → Nat} {T : gS} (h : T.2.2 = false) : ∀ {j : Nat}, j ≤ 4 → pst R n j c T = T
  | 0, _ => rfl
  | j + 1, hj => by
    rw [pst_s, pst_f h (j := j) (by omega)]
    exact lpf_f fun k _ _ => gbd_f (by omega) h
/-- the next constants: one more at w, the lowest behind -/
def nxc (R : RW) (c : Nat → Nat) (w : Nat) : Nat → Nat := fun u => if u = w then c w + 1 else if w < u ∧ u < 4 then loR R u else c u
theorem pst_n {R : RW} {n : Nat} (o : R_ok 6 R) {c : Nat → Nat} {w : Nat} {T : gS} (hw : w < 4) (h1 : ∀ u, w < u → u < 4 → c u = hR R u) (h2 : c w < hR R w) : ∀ {j : Nat}, 4 - w ≤ j → j ≤ 4 → pst R n j c T = pst R n j (nxc R c w) (gst R n (cl4 (nxc R c w)) T)
  | 0, a, _ => absurd a (by omega)
  | j + 1, a, b => by
    have lw : nxc R c w w = c w + 1 := if_pos rfl
    by_cases e : j + 1 = 4 - w
    · have e3 : 3 - j = w := by omega
      rw [pst_s, pst_s, pst_z (j := j) (by omega) (fun u q1 q2 => h1 u (by omega) q2), e3, lw, show hR R w - c w = (hR R w - (c w + 1)) + 1 by omega, lpf_s, ← gbd_p o (j := j) (by omega) fun u q1 q2 => by
        unfold nxc
        rw [if_neg (by omega), if_pos (by omega)]]
      have ag : ∀ k u, u < 4 - j → cup c w k u = cup (nxc R c w) w k u := fun k u hu => by
        unfold cup nxc
        by_cases q : u = w
        · rw [if_pos q, if_pos q]
        · rw [if_neg q, if_neg q, if_neg q, if_neg (by omega)]
      have e5 : gbd R n j (cup c w (c w + 1)) T = gbd R n j (nxc R c w) T := gbd_cg R n (by omega) fun u hu => by
        unfold cup nxc
        by_cases q : u = w
        · rw [if_pos q, if_pos q]
        · rw [if_neg q, if_neg q, if_neg (by omega)]
      rw [e5]
      exact lpf_cg fun k S _ _ => gbd_cg R n (by omega) (ag k)
    · have n3 : nxc R c w (3 - j) = c (3 - j) := by
        unfold nxc
        rw [if_neg (by omega), if_neg (by omega)]
      rw [pst_s, pst_s, n3, pst_n o hw h1 h2 (j := j) (by omega) (by omega)]
      exact lpf_cg fun k S _ _ => gbd_cg R n (by omega) fun u hu => by
        unfold cup nxc
        by_cases q : u = 3 - j
        · rw [if_pos q, if_pos q]
        · rw [if_neg q, if_neg q, if_neg (by omega), if_neg (by omega)]
def mu (R : RW) (c : Nat → Nat) : Nat := (hR R 0 - c 0) * 1000 + (hR R 1 - c 1) * 100 + (hR R 2 - c 2) * 10 + (hR R 3 - c 3)
theorem mu_lt {R : RW} (o : R_ok 6 R) {c : Nat → Nat} {w : Nat} (hw : w < 4) (h1 : ∀ u, w < u → u < 4 → c u = hR R u) (h2 : c w < hR R w) : mu R (nxc R c w) < mu R c := by
  have a0 := hR_le (R := R) (v := 0) o (by omega)
  have a1 := hR_le (R := R) (v := 1) o (by omega)
  have a2 := hR_le (R := R) (v := 2) o (by omega)
  have a3 := hR_le (R := R) (v := 3) o (by omega)
  have b1 := h1 1
  have b2 := h1 2
  have b3 := h1 3
  have : w = 0 ∨ w = 1 ∨ w = 2 ∨ w = 3 := by omega
  unfold mu nxc
  rcases this with rfl | rfl | rfl | rfl
  · simp (disch := omega) only [if_pos, if_neg, true_and, and_true, Nat.reduceLT, Nat.reduceEqDiff, if_true, if_false, false_and]
    omega
  · simp (disch := omega) only [if_pos, if_neg, true_and, and_true, Nat.reduceLT, Nat.reduceEqDiff, if_true, if_false, false_and]
    omega
  · simp (disch := omega) only [if_pos, if_neg, true_and, and_true, Nat.reduceLT, Nat.reduceEqDiff, if_true, if_false, false_and]
    omega
  · simp (disch := omega) only [if_pos, if_neg, true_and, and_true, Nat.reduceLT, Nat.reduceEqDiff, if_true, if_false, false_and]
    omega
section MDL
variable {sc : (Nat → Int32) × Nat} {d : Nat} {h : AH} {Q : Rs → AH → Prop} {R : RW} {c : Nat → Nat} {A I : List Nat}
theorem n_m1e {x : Nat} (hx : x < 2147483648) : (nI x = -1) = False := eq_false (n_m1 hx)
theorem m_96 (hp : SHP h) (m : MRw h 68 0 R) {v : Nat} (hv : v < 4) (hf : R_il R v = true → R_fr R v ≤ 9) : TC sc (d + 1) 96 [.ref 49, .int (nI (msk 4 (vall R))), .int (nI v)] h Q ↔ Q (.inl (some (.int (nI (loR R v))))) h := TC_of (fun Q hq => by
  obtain ⟨e1, e2⟩ := m.2.2.2.1 v hv
  rw [Nat.zero_add] at e1
  have lm := msk_lt 4 (vall R)
  have e3 : (msk 4 (vall R)).testBit v = vall R v := by rw [msk_tb, decide_eq_true hv, Bool.true_and]
  generalize msk 4 (vall R) = M at *
  unfold loR at hq
  cases q1 : R_il R v
  · rw [q1, if_neg (by simp)] at e1
    rw [q1, Bool.and_false, if_neg (by simp)] at hq
    cases q2 : vall R v
    · refine TC_e (ls := [.ref 49, .int (nI M), .int (nI v), unk]) (Nat.le_of_ble_eq_true rfl) rfl (wx_sound (S := []) 60 true _ _ _ _ ?_)
      simp +contextual (disch := omega) only [K96, wx_t, wx_g, wJ_t, wJ_f, wI_s, CI, CL, C01, aftC_v, aftC_n, true_or, or_true, true_and, and_true, inS_n, inS_c, pI_c, pL_c, pA_c, pV_c, pE_c, pQ_s, pQ_n, pQ_r, cm_eq', cm_ne', cm_lt', cm_ge', cm_gt', cm_le', List.getD_cons_zero, List.getD_cons_succ, Nat.reduceAdd, Nat.reduceBEq, Bool.false_or, Bool.or_false, Bool.true_or, Int.reduceToNat, s_iload, s_lload, s_aload, s_istore, s_astore, s_lstore, s_iconst, s_sipush, s_aconst_null, s_iadd, s_isub, s_imul, s_iand, s_ior, s_ixor, s_idiv, s_irem, s_ishl, s_ishr, s_iushr, s_ladd, s_lsub, s_land, s_lor, s_lxor, s_lneg, s_lshl, s_lshr, s_lushr, s_i2l, s_l2i, s_lcmp, s_dup, s_pop, s_dup2, s_i2c, s_i2s, s_monitorenter, s_ifCond, s_if_icmp, s_ifnull, s_goto, s_iinc, s_tableswitch, s_ireturn, s_freturn, s_lreturn, s_areturn, s_return_, s_ldc, s_getfield, s_putfield, s_iaload, s_iastore, s_laload, s_lastore, s_baload, s_bastore, s_aaload, s_aastore, s_arraylength, s_newarray, s_anewarray, s_new, s_invokestatic, s_invokespecial, s_invokevirtual, fvl_0, fvl_1, fvl_2, fvl_3, fp_0, fp_1, fp_2, fp_3, rf_s, rf_n, isRf_b, knw_b, isLg_b, popA_0, popA_s, st1_0, st1_s, st2_e, set_0, set_s, aftC_e, hxP_s, hxP_n, iteF, iteT, bft, im_t, im_f, nt_f, nt_t, Nat.reduceDiv, Nat.reduceMod, Nat.reduceLeDiff, Nat.reduceLT, Nat.reduceEqDiff, List.length_cons, List.length_nil, Nat.zero_add, Nat.reduceSub, List.cons_append, List.nil_append, ak_i, az_i, ar_i, al_i, ai_i, ak_l, az_l, ar_l, al_l, ai_l, ak_r, az_r, ar_r, al_r, ai_r, pk_m1, reduceCtorEq, msk_tb, mskL, Bool.and_eq_true, decide_eq_true_eq, lg_0, lg_t, lg_g, lg_e, lg_l, tb_z, Nat.mod_eq_of_lt, lN_1s, and_ze, brT, brF, brN, vpT, a4095, a63, nI_e, nI_l', nI_t', dif_z, and_z, and_zr, lN_e, nI_clamp, nx_shr, Nat.reducePow, bI_0, bI_1, bI_z, bI_o, bI_or, n01, nI_add, pk_mul, nx_and, nx_or, nx_dif, lx_and, lx_or, lx_dif, Bool.not_eq_true, Bool.not_eq_false, Bool.true_eq_false, Bool.false_eq_true, ss_49 hp, e1, m5_c, tb_mod, e3, q2, Bool.toNat_true, Bool.toNat_false]
      exact hq
    · refine TC_e (ls := [.ref 49, .int (nI M), .int (nI v), unk]) (Nat.le_of_ble_eq_true rfl) rfl (wx_sound (S := []) 60 true _ _ _ _ ?_)
      simp +contextual (disch := omega) only [K96, wx_t, wx_g, wJ_t, wJ_f, wI_s, CI, CL, C01, aftC_v, aftC_n, true_or, or_true, true_and, and_true, inS_n, inS_c, pI_c, pL_c, pA_c, pV_c, pE_c, pQ_s, pQ_n, pQ_r, cm_eq', cm_ne', cm_lt', cm_ge', cm_gt', cm_le', List.getD_cons_zero, List.getD_cons_succ, Nat.reduceAdd, Nat.reduceBEq, Bool.false_or, Bool.or_false, Bool.true_or, Int.reduceToNat, s_iload, s_lload, s_aload, s_istore, s_astore, s_lstore, s_iconst, s_sipush, s_aconst_null, s_iadd, s_isub, s_imul, s_iand, s_ior, s_ixor, s_idiv, s_irem, s_ishl, s_ishr, s_iushr, s_ladd, s_lsub, s_land, s_lor, s_lxor, s_lneg, s_lshl, s_lshr, s_lushr, s_i2l, s_l2i, s_lcmp, s_dup, s_pop, s_dup2, s_i2c, s_i2s, s_monitorenter, s_ifCond, s_if_icmp, s_ifnull, s_goto, s_iinc, s_tableswitch, s_ireturn, s_freturn, s_lreturn, s_areturn, s_return_, s_ldc, s_getfield, s_putfield, s_iaload, s_iastore, s_laload, s_lastore, s_baload, s_bastore, s_aaload, s_aastore, s_arraylength, s_newarray, s_anewarray, s_new, s_invokestatic, s_invokespecial, s_invokevirtual, fvl_0, fvl_1, fvl_2, fvl_3, fp_0, fp_1, fp_2, fp_3, rf_s, rf_n, isRf_b, knw_b, isLg_b, popA_0, popA_s, st1_0, st1_s, st2_e, set_0, set_s, aftC_e, hxP_s, hxP_n, iteF, iteT, bft, im_t, im_f, nt_f, nt_t, Nat.reduceDiv, Nat.reduceMod, Nat.reduceLeDiff, Nat.reduceLT, Nat.reduceEqDiff, List.length_cons, List.length_nil, Nat.zero_add, Nat.reduceSub, List.cons_append, List.nil_append, ak_i, az_i, ar_i, al_i, ai_i, ak_l, az_l, ar_l, al_l, ai_l, ak_r, az_r, ar_r, al_r, ai_r, pk_m1, reduceCtorEq, msk_tb, mskL, Bool.and_eq_true, decide_eq_true_eq, lg_0, lg_t, lg_g, lg_e, lg_l, tb_z, Nat.mod_eq_of_lt, lN_1s, and_ze, brT, brF, brN, vpT, a4095, a63, nI_e, nI_l', nI_t', dif_z, and_z, and_zr, lN_e, nI_clamp, nx_shr, Nat.reducePow, bI_0, bI_1, bI_z, bI_o, bI_or, n01, nI_add, pk_mul, nx_and, nx_or, nx_dif, lx_and, lx_or, lx_dif, Bool.not_eq_true, Bool.not_eq_false, Bool.true_eq_false, Bool.false_eq_true, ss_49 hp, e1, m5_c, tb_mod, e3, q2, Bool.toNat_true, Bool.toNat_false]
      exact hq
  · rw [q1, if_pos rfl] at e1
    have f9 := hf q1
    have nm := n_m1e (x := R_fr R v) (by omega)
    cases q2 : vall R v
    · rw [q2, Bool.false_and, if_neg (by simp)] at hq
      refine TC_e (ls := [.ref 49, .int (nI M), .int (nI v), unk]) (Nat.le_of_ble_eq_true rfl) rfl (wx_sound (S := []) 60 true _ _ _ _ ?_)
      simp +contextual (disch := omega) only [K96, wx_t, wx_g, wJ_t, wJ_f, wI_s, CI, CL, C01, aftC_v, aftC_n, true_or, or_true, true_and, and_true, inS_n, inS_c, pI_c, pL_c, pA_c, pV_c, pE_c, pQ_s, pQ_n, pQ_r, cm_eq', cm_ne', cm_lt', cm_ge', cm_gt', cm_le', List.getD_cons_zero, List.getD_cons_succ, Nat.reduceAdd, Nat.reduceBEq, Bool.false_or, Bool.or_false, Bool.true_or, Int.reduceToNat, s_iload, s_lload, s_aload, s_istore, s_astore, s_lstore, s_iconst, s_sipush, s_aconst_null, s_iadd, s_isub, s_imul, s_iand, s_ior, s_ixor, s_idiv, s_irem, s_ishl, s_ishr, s_iushr, s_ladd, s_lsub, s_land, s_lor, s_lxor, s_lneg, s_lshl, s_lshr, s_lushr, s_i2l, s_l2i, s_lcmp, s_dup, s_pop, s_dup2, s_i2c, s_i2s, s_monitorenter, s_ifCond, s_if_icmp, s_ifnull, s_goto, s_iinc, s_tableswitch, s_ireturn, s_freturn, s_lreturn, s_areturn, s_return_, s_ldc, s_getfield, s_putfield, s_iaload, s_iastore, s_laload, s_lastore, s_baload, s_bastore, s_aaload, s_aastore, s_arraylength, s_newarray, s_anewarray, s_new, s_invokestatic, s_invokespecial, s_invokevirtual, fvl_0, fvl_1, fvl_2, fvl_3, fp_0, fp_1, fp_2, fp_3, rf_s, rf_n, isRf_b, knw_b, isLg_b, popA_0, popA_s, st1_0, st1_s, st2_e, set_0, set_s, aftC_e, hxP_s, hxP_n, iteF, iteT, bft, im_t, im_f, nt_f, nt_t, Nat.reduceDiv, Nat.reduceMod, Nat.reduceLeDiff, Nat.reduceLT, Nat.reduceEqDiff, List.length_cons, List.length_nil, Nat.zero_add, Nat.reduceSub, List.cons_append, List.nil_append, ak_i, az_i, ar_i, al_i, ai_i, ak_l, az_l, ar_l, al_l, ai_l, ak_r, az_r, ar_r, al_r, ai_r, pk_m1, reduceCtorEq, msk_tb, mskL, Bool.and_eq_true, decide_eq_true_eq, lg_0, lg_t, lg_g, lg_e, lg_l, tb_z, Nat.mod_eq_of_lt, lN_1s, and_ze, brT, brF, brN, vpT, a4095, a63, nI_e, nI_l', nI_t', dif_z, and_z, and_zr, lN_e, nI_clamp, nx_shr, Nat.reducePow, bI_0, bI_1, bI_z, bI_o, bI_or, n01, nI_add, pk_mul, nx_and, nx_or, nx_dif, lx_and, lx_or, lx_dif, Bool.not_eq_true, Bool.not_eq_false, Bool.true_eq_false, Bool.false_eq_true, ss_49 hp, e1, nm, tb_mod, e3, q2, Bool.toNat_true, Bool.toNat_false]
      exact hq
    · rw [q2, q1, Bool.true_and, if_pos rfl] at hq
      refine TC_e (ls := [.ref 49, .int (nI M), .int (nI v), unk]) (Nat.le_of_ble_eq_true rfl) rfl (wx_sound (S := []) 60 true _ _ _ _ ?_)
      simp +contextual (disch := omega) only [K96, wx_t, wx_g, wJ_t, wJ_f, wI_s, CI, CL, C01, aftC_v, aftC_n, true_or, or_true, true_and, and_true, inS_n, inS_c, pI_c, pL_c, pA_c, pV_c, pE_c, pQ_s, pQ_n, pQ_r, cm_eq', cm_ne', cm_lt', cm_ge', cm_gt', cm_le', List.getD_cons_zero, List.getD_cons_succ, Nat.reduceAdd, Nat.reduceBEq, Bool.false_or, Bool.or_false, Bool.true_or, Int.reduceToNat, s_iload, s_lload, s_aload, s_istore, s_astore, s_lstore, s_iconst, s_sipush, s_aconst_null, s_iadd, s_isub, s_imul, s_iand, s_ior, s_ixor, s_idiv, s_irem, s_ishl, s_ishr, s_iushr, s_ladd, s_lsub, s_land, s_lor, s_lxor, s_lneg, s_lshl, s_lshr, s_lushr, s_i2l, s_l2i, s_lcmp, s_dup, s_pop, s_dup2, s_i2c, s_i2s, s_monitorenter, s_ifCond, s_if_icmp, s_ifnull, s_goto, s_iinc, s_tableswitch, s_ireturn, s_freturn, s_lreturn, s_areturn, s_return_, s_ldc, s_getfield, s_putfield, s_iaload, s_iastore, s_laload, s_lastore, s_baload, s_bastore, s_aaload, s_aastore, s_arraylength, s_newarray, s_anewarray, s_new, s_invokestatic, s_invokespecial, s_invokevirtual, fvl_0, fvl_1, fvl_2, fvl_3, fp_0, fp_1, fp_2, fp_3, rf_s, rf_n, isRf_b, knw_b, isLg_b, popA_0, popA_s, st1_0, st1_s, st2_e, set_0, set_s, aftC_e, hxP_s, hxP_n, iteF, iteT, bft, im_t, im_f, nt_f, nt_t, Nat.reduceDiv, Nat.reduceMod, Nat.reduceLeDiff, Nat.reduceLT, Nat.reduceEqDiff, List.length_cons, List.length_nil, Nat.zero_add, Nat.reduceSub, List.cons_append, List.nil_append, ak_i, az_i, ar_i, al_i, ai_i, ak_l, az_l, ar_l, al_l, ai_l, ak_r, az_r, ar_r, al_r, ai_r, pk_m1, reduceCtorEq, msk_tb, mskL, Bool.and_eq_true, decide_eq_true_eq, lg_0, lg_t, lg_g, lg_e, lg_l, tb_z, Nat.mod_eq_of_lt, lN_1s, and_ze, brT, brF, brN, vpT, a4095, a63, nI_e, nI_l', nI_t', dif_z, and_z, and_zr, lN_e, nI_clamp, nx_shr, Nat.reducePow, bI_0, bI_1, bI_z, bI_o, bI_or, n01, nI_add, pk_mul, nx_and, nx_or, nx_dif, lx_and, lx_or, lx_dif, Bool.not_eq_true, Bool.not_eq_false, Bool.true_eq_false, Bool.false_eq_true, ss_49 hp, e1, nm, tb_mod, e3, q2, Bool.toNat_true, Bool.toNat_false]
      exact hq) Q
theorem m_97 (hp : SHP h) (m : MRw h 68 0 R) {v : Nat} (hv : v < 4) (hf : R_il R v = true → R_fr R v ≤ 9) : TC sc (d + 1) 97 [.ref 49, .int (nI (msk 4 (vall R))), .int (nI v)] h Q ↔ Q (.inl (some (.int (nI (hR R v))))) h := TC_of (fun Q hq => by
  obtain ⟨e1, e2⟩ := m.2.2.2.1 v hv
  rw [Nat.zero_add] at e1 e2
  have lm := msk_lt 4 (vall R)
  have e3 : (msk 4 (vall R)).testBit v = vall R v := by rw [msk_tb, decide_eq_true hv, Bool.true_and]
  generalize msk 4 (vall R) = M at *
  unfold hR at hq
  cases q1 : R_il R v
  · rw [q1, if_neg (by simp)] at e1
    rw [q1] at hq
    cases q2 : vall R v
    · rw [q2] at hq
      refine TC_e (ls := [.ref 49, .int (nI M), .int (nI v), unk]) (Nat.le_of_ble_eq_true rfl) rfl (wx_sound (S := []) 60 true _ _ _ _ ?_)
      simp +contextual (disch := omega) only [K97, wx_t, wx_g, wJ_t, wJ_f, wI_s, CI, CL, C01, aftC_v, aftC_n, true_or, or_true, true_and, and_true, inS_n, inS_c, pI_c, pL_c, pA_c, pV_c, pE_c, pQ_s, pQ_n, pQ_r, cm_eq', cm_ne', cm_lt', cm_ge', cm_gt', cm_le', List.getD_cons_zero, List.getD_cons_succ, Nat.reduceAdd, Nat.reduceBEq, Bool.false_or, Bool.or_false, Bool.true_or, Int.reduceToNat, s_iload, s_lload, s_aload, s_istore, s_astore, s_lstore, s_iconst, s_sipush, s_aconst_null, s_iadd, s_isub, s_imul, s_iand, s_ior, s_ixor, s_idiv, s_irem, s_ishl, s_ishr, s_iushr, s_ladd, s_lsub, s_land, s_lor, s_lxor, s_lneg, s_lshl, s_lshr, s_lushr, s_i2l, s_l2i, s_lcmp, s_dup, s_pop, s_dup2, s_i2c, s_i2s, s_monitorenter, s_ifCond, s_if_icmp, s_ifnull, s_goto, s_iinc, s_tableswitch, s_ireturn, s_freturn, s_lreturn, s_areturn, s_return_, s_ldc, s_getfield, s_putfield, s_iaload, s_iastore, s_laload, s_lastore, s_baload, s_bastore, s_aaload, s_aastore, s_arraylength, s_newarray, s_anewarray, s_new, s_invokestatic, s_invokespecial, s_invokevirtual, fvl_0, fvl_1, fvl_2, fvl_3, fp_0, fp_1, fp_2, fp_3, rf_s, rf_n, isRf_b, knw_b, isLg_b, popA_0, popA_s, st1_0, st1_s, st2_e, set_0, set_s, aftC_e, hxP_s, hxP_n, iteF, iteT, bft, im_t, im_f, nt_f, nt_t, Nat.reduceDiv, Nat.reduceMod, Nat.reduceLeDiff, Nat.reduceLT, Nat.reduceEqDiff, List.length_cons, List.length_nil, Nat.zero_add, Nat.reduceSub, List.cons_append, List.nil_append, ak_i, az_i, ar_i, al_i, ai_i, ak_l, az_l, ar_l, al_l, ai_l, ak_r, az_r, ar_r, al_r, ai_r, pk_m1, reduceCtorEq, msk_tb, mskL, Bool.and_eq_true, decide_eq_true_eq, lg_0, lg_t, lg_g, lg_e, lg_l, tb_z, Nat.mod_eq_of_lt, lN_1s, and_ze, brT, brF, brN, vpT, a4095, a63, nI_e, nI_l', nI_t', dif_z, and_z, and_zr, lN_e, nI_clamp, nx_shr, Nat.reducePow, bI_0, bI_1, bI_z, bI_o, bI_or, n01, nI_add, pk_mul, nx_and, nx_or, nx_dif, lx_and, lx_or, lx_dif, Bool.not_eq_true, Bool.not_eq_false, Bool.true_eq_false, Bool.false_eq_true, ss_49 hp, e1, m5_c, tb_mod, e3, q2, Bool.toNat_true, Bool.toNat_false]
      exact hq
    · rw [q2] at hq
      refine TC_e (ls := [.ref 49, .int (nI M), .int (nI v), unk]) (Nat.le_of_ble_eq_true rfl) rfl (wx_sound (S := []) 60 true _ _ _ _ ?_)
      simp +contextual (disch := omega) only [K97, wx_t, wx_g, wJ_t, wJ_f, wI_s, CI, CL, C01, aftC_v, aftC_n, true_or, or_true, true_and, and_true, inS_n, inS_c, pI_c, pL_c, pA_c, pV_c, pE_c, pQ_s, pQ_n, pQ_r, cm_eq', cm_ne', cm_lt', cm_ge', cm_gt', cm_le', List.getD_cons_zero, List.getD_cons_succ, Nat.reduceAdd, Nat.reduceBEq, Bool.false_or, Bool.or_false, Bool.true_or, Int.reduceToNat, s_iload, s_lload, s_aload, s_istore, s_astore, s_lstore, s_iconst, s_sipush, s_aconst_null, s_iadd, s_isub, s_imul, s_iand, s_ior, s_ixor, s_idiv, s_irem, s_ishl, s_ishr, s_iushr, s_ladd, s_lsub, s_land, s_lor, s_lxor, s_lneg, s_lshl, s_lshr, s_lushr, s_i2l, s_l2i, s_lcmp, s_dup, s_pop, s_dup2, s_i2c, s_i2s, s_monitorenter, s_ifCond, s_if_icmp, s_ifnull, s_goto, s_iinc, s_tableswitch, s_ireturn, s_freturn, s_lreturn, s_areturn, s_return_, s_ldc, s_getfield, s_putfield, s_iaload, s_iastore, s_laload, s_lastore, s_baload, s_bastore, s_aaload, s_aastore, s_arraylength, s_newarray, s_anewarray, s_new, s_invokestatic, s_invokespecial, s_invokevirtual, fvl_0, fvl_1, fvl_2, fvl_3, fp_0, fp_1, fp_2, fp_3, rf_s, rf_n, isRf_b, knw_b, isLg_b, popA_0, popA_s, st1_0, st1_s, st2_e, set_0, set_s, aftC_e, hxP_s, hxP_n, iteF, iteT, bft, im_t, im_f, nt_f, nt_t, Nat.reduceDiv, Nat.reduceMod, Nat.reduceLeDiff, Nat.reduceLT, Nat.reduceEqDiff, List.length_cons, List.length_nil, Nat.zero_add, Nat.reduceSub, List.cons_append, List.nil_append, ak_i, az_i, ar_i, al_i, ai_i, ak_l, az_l, ar_l, al_l, ai_l, ak_r, az_r, ar_r, al_r, ai_r, pk_m1, reduceCtorEq, msk_tb, mskL, Bool.and_eq_true, decide_eq_true_eq, lg_0, lg_t, lg_g, lg_e, lg_l, tb_z, Nat.mod_eq_of_lt, lN_1s, and_ze, brT, brF, brN, vpT, a4095, a63, nI_e, nI_l', nI_t', dif_z, and_z, and_zr, lN_e, nI_clamp, nx_shr, Nat.reducePow, bI_0, bI_1, bI_z, bI_o, bI_or, n01, nI_add, pk_mul, nx_and, nx_or, nx_dif, lx_and, lx_or, lx_dif, Bool.not_eq_true, Bool.not_eq_false, Bool.true_eq_false, Bool.false_eq_true, ss_49 hp, e1, m5_c, tb_mod, e3, q2, Bool.toNat_true, Bool.toNat_false]
      exact hq
  · rw [q1, if_pos rfl] at e1
    have e2 : ah_i h 68 (45 + 2 * v + 1) = nI (R_to R v) := by rw [← e2 q1]; first | done | (congr 1 <;> omega)
    have f9 := hf q1
    have nm := n_m1e (x := R_fr R v) (by omega)
    rw [q1] at hq
    cases q2 : vall R v
    · rw [q2] at hq
      refine TC_e (ls := [.ref 49, .int (nI M), .int (nI v), unk]) (Nat.le_of_ble_eq_true rfl) rfl (wx_sound (S := []) 60 true _ _ _ _ ?_)
      simp +contextual (disch := omega) only [K97, wx_t, wx_g, wJ_t, wJ_f, wI_s, CI, CL, C01, aftC_v, aftC_n, true_or, or_true, true_and, and_true, inS_n, inS_c, pI_c, pL_c, pA_c, pV_c, pE_c, pQ_s, pQ_n, pQ_r, cm_eq', cm_ne', cm_lt', cm_ge', cm_gt', cm_le', List.getD_cons_zero, List.getD_cons_succ, Nat.reduceAdd, Nat.reduceBEq, Bool.false_or, Bool.or_false, Bool.true_or, Int.reduceToNat, s_iload, s_lload, s_aload, s_istore, s_astore, s_lstore, s_iconst, s_sipush, s_aconst_null, s_iadd, s_isub, s_imul, s_iand, s_ior, s_ixor, s_idiv, s_irem, s_ishl, s_ishr, s_iushr, s_ladd, s_lsub, s_land, s_lor, s_lxor, s_lneg, s_lshl, s_lshr, s_lushr, s_i2l, s_l2i, s_lcmp, s_dup, s_pop, s_dup2, s_i2c, s_i2s, s_monitorenter, s_ifCond, s_if_icmp, s_ifnull, s_goto, s_iinc, s_tableswitch, s_ireturn, s_freturn, s_lreturn, s_areturn, s_return_, s_ldc, s_getfield, s_putfield, s_iaload, s_iastore, s_laload, s_lastore, s_baload, s_bastore, s_aaload, s_aastore, s_arraylength, s_newarray, s_anewarray, s_new, s_invokestatic, s_invokespecial, s_invokevirtual, fvl_0, fvl_1, fvl_2, fvl_3, fp_0, fp_1, fp_2, fp_3, rf_s, rf_n, isRf_b, knw_b, isLg_b, popA_0, popA_s, st1_0, st1_s, st2_e, set_0, set_s, aftC_e, hxP_s, hxP_n, iteF, iteT, bft, im_t, im_f, nt_f, nt_t, Nat.reduceDiv, Nat.reduceMod, Nat.reduceLeDiff, Nat.reduceLT, Nat.reduceEqDiff, List.length_cons, List.length_nil, Nat.zero_add, Nat.reduceSub, List.cons_append, List.nil_append, ak_i, az_i, ar_i, al_i, ai_i, ak_l, az_l, ar_l, al_l, ai_l, ak_r, az_r, ar_r, al_r, ai_r, pk_m1, reduceCtorEq, msk_tb, mskL, Bool.and_eq_true, decide_eq_true_eq, lg_0, lg_t, lg_g, lg_e, lg_l, tb_z, Nat.mod_eq_of_lt, lN_1s, and_ze, brT, brF, brN, vpT, a4095, a63, nI_e, nI_l', nI_t', dif_z, and_z, and_zr, lN_e, nI_clamp, nx_shr, Nat.reducePow, bI_0, bI_1, bI_z, bI_o, bI_or, n01, nI_add, pk_mul, nx_and, nx_or, nx_dif, lx_and, lx_or, lx_dif, Bool.not_eq_true, Bool.not_eq_false, Bool.true_eq_false, Bool.false_eq_true, ss_49 hp, e1, e2, nm, tb_mod, e3, q2, Bool.toNat_true, Bool.toNat_false]
      exact hq
    · rw [q2] at hq
      refine TC_e (ls := [.ref 49, .int (nI M), .int (nI v), unk]) (Nat.le_of_ble_eq_true rfl) rfl (wx_sound (S := []) 60 true _ _ _ _ ?_)
      simp +contextual (disch := omega) only [K97, wx_t, wx_g, wJ_t, wJ_f, wI_s, CI, CL, C01, aftC_v, aftC_n, true_or, or_true, true_and, and_true, inS_n, inS_c, pI_c, pL_c, pA_c, pV_c, pE_c, pQ_s, pQ_n, pQ_r, cm_eq', cm_ne', cm_lt', cm_ge', cm_gt', cm_le', List.getD_cons_zero, List.getD_cons_succ, Nat.reduceAdd, Nat.reduceBEq, Bool.false_or, Bool.or_false, Bool.true_or, Int.reduceToNat, s_iload, s_lload, s_aload, s_istore, s_astore, s_lstore, s_iconst, s_sipush, s_aconst_null, s_iadd, s_isub, s_imul, s_iand, s_ior, s_ixor, s_idiv, s_irem, s_ishl, s_ishr, s_iushr, s_ladd, s_lsub, s_land, s_lor, s_lxor, s_lneg, s_lshl, s_lshr, s_lushr, s_i2l, s_l2i, s_lcmp, s_dup, s_pop, s_dup2, s_i2c, s_i2s, s_monitorenter, s_ifCond, s_if_icmp, s_ifnull, s_goto, s_iinc, s_tableswitch, s_ireturn, s_freturn, s_lreturn, s_areturn, s_return_, s_ldc, s_getfield, s_putfield, s_iaload, s_iastore, s_laload, s_lastore, s_baload, s_bastore, s_aaload, s_aastore, s_arraylength, s_newarray, s_anewarray, s_new, s_invokestatic, s_invokespecial, s_invokevirtual, fvl_0, fvl_1, fvl_2, fvl_3, fp_0, fp_1, fp_2, fp_3, rf_s, rf_n, isRf_b, knw_b, isLg_b, popA_0, popA_s, st1_0, st1_s, st2_e, set_0, set_s, aftC_e, hxP_s, hxP_n, iteF, iteT, bft, im_t, im_f, nt_f, nt_t, Nat.reduceDiv, Nat.reduceMod, Nat.reduceLeDiff, Nat.reduceLT, Nat.reduceEqDiff, List.length_cons, List.length_nil, Nat.zero_add, Nat.reduceSub, List.cons_append, List.nil_append, ak_i, az_i, ar_i, al_i, ai_i, ak_l, az_l, ar_l, al_l, ai_l, ak_r, az_r, ar_r, al_r, ai_r, pk_m1, reduceCtorEq, msk_tb, mskL, Bool.and_eq_true, decide_eq_true_eq, lg_0, lg_t, lg_g, lg_e, lg_l, tb_z, Nat.mod_eq_of_lt, lN_1s, and_ze, brT, brF, brN, vpT, a4095, a63, nI_e, nI_l', nI_t', dif_z, and_z, and_zr, lN_e, nI_clamp, nx_shr, Nat.reducePow, bI_0, bI_1, bI_z, bI_o, bI_or, n01, nI_add, pk_mul, nx_and, nx_or, nx_dif, lx_and, lx_or, lx_dif, Bool.not_eq_true, Bool.not_eq_false, Bool.true_eq_false, Bool.false_eq_true, ss_49 hp, e1, e2, nm, tb_mod, e3, q2, Bool.toNat_true, Bool.toNat_false]
      exact hq) Q
end MDL
