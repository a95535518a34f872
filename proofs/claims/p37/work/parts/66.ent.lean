/-! ENTRIES OF A DRAFT -/
def addL (R : RW) (l p x y : Nat) : RW := (R_kd R, R_gv R, (fun j => if j = l then R_n R l + 1 else R_n R j), (fun j k => if j = l ∧ k = R_n R l then p else R_p R j k), (fun j k => if j = l ∧ k = R_n R l then x else R_a R j k), (fun j k => if j = l ∧ k = R_n R l then y else R_b R j k), R_w R, R_il R, R_fr R, R_to R, R_su R, R_lo R, R_hi R)
theorem ecd_add (R : RW) (l p x y j k : Nat) : ecd (addL R l p x y) j k = if j = l ∧ k = R_n R l then p * 1024 + x * 32 + y else ecd R j k := by
  unfold ecd
  by_cases e : j = l ∧ k = R_n R l
  · rw [if_pos e]; unfold addL R_p R_a R_b; simp only [e.1, e.2, and_self, if_true]
  · rw [if_neg e]; unfold addL R_p R_a R_b; simp only [e, if_false]
theorem n_add (R : RW) (l p x y j : Nat) : R_n (addL R l p x y) j = if j = l then R_n R l + 1 else R_n R j := rfl
theorem eO_lt (l : Nat) : 2 ≤ eO l ∧ eO l ≤ 11 := by
  unfold eO; split <;> omega
theorem eO_in {l j : Nat} (h1 : l < 5) (h2 : j < 5) : (eO l = eO j → l = j) ∧ (eO l + 1 = eO j → False) ∧ (eO l ≠ 1 ∧ eO l ≠ 10 ∧ eO l ≠ 13 ∧ eO l + 1 ≠ 10 ∧ eO l + 1 ≠ 13 ∧ eO l + 1 ≤ 12) := by
  have a : l = 0 ∨ l = 1 ∨ l = 2 ∨ l = 3 ∨ l = 4 := by omega
  have b : j = 0 ∨ j = 1 ∨ j = 2 ∨ j = 3 ∨ j = 4 := by omega
  clear h1 h2
  rcases a with rfl | rfl | rfl | rfl | rfl <;> rcases b with rfl | rfl | rfl | rfl | rfl <;> decide
/-- the draft's own cells -/
def Sd (r : Nat) : Nat → Nat → Prop := fun a _ => r ≤ a ∧ a ≤ r + 15
theorem ai_n {h : AH} {a k b j : Nat} {v : Int32} (n : ¬ (b = a ∧ j = k)) : ah_i (ap_i h a k v) b j = ah_i h b j := by rw [ai_i, if_neg n]
theorem ai_y {h : AH} {a k : Nat} {v : Int32} : ah_i (ap_i h a k v) a k = v := by rw [ai_i, if_pos ⟨rfl, rfl⟩]
theorem RCo_add {h : AH} {r : Nat} {R : RW} (c : RCo h r R) {l : Nat} (hl : l < 5) (p x y : Nat) (hw : l = 4 → ah_i h (r + 13) (R_n R 4) = R_w R (R_n R 4)) : RCo (ap_i (ap_i h (r + eO l + 1) (R_n R l) (nI (p * 1024 + x * 32 + y))) (r + eO l) 2 (nI (R_n R l + 1))) r (addL R l p x y) := by
  obtain ⟨c1, c2, c3, c4, c5, c6, c7, c8, c9, c10⟩ := c
  have el := eO_in hl hl
  have e2 := eO_lt l
  refine ⟨?_, fun z => ?_, fun z => ?_, fun z => ?_, fun j hj => ⟨?_, ?_, fun k hk => ?_⟩, ?_, fun z => ?_, fun k hk => ?_, ?_, fun v hv z => ?_⟩
  · rw [ai_n (by omega), ai_n (by omega)]; exact c1
  · rw [ai_n (by omega), ai_n (by omega), ai_n (by omega), ai_n (by omega)]; exact c2 z
  · rw [ai_n (by omega), ai_n (by omega), ai_n (by omega), ai_n (by omega)]; exact c3 z
  · rw [ai_n (by omega), ai_n (by omega), ai_n (by omega), ai_n (by omega), ai_n (by omega), ai_n (by omega)]; exact c4 z
  · have ej := eO_in hl hj
    have e5 : eO l + 1 ≠ eO j := ej.2.1
    have e6 : eO j + 1 ≠ eO l := (eO_in hj hl).2.1
    rw [ai_n (by omega), ai_n (by omega)]; exact (c5 j hj).1
  · have ej := eO_in hl hj
    have e5 : eO l + 1 ≠ eO j := ej.2.1
    have e6 : eO j + 1 ≠ eO l := (eO_in hj hl).2.1
    rw [n_add]
    by_cases q : j = l
    · subst q; rw [ai_y, if_pos rfl]
    · have : eO l ≠ eO j := fun z => q (ej.1 z).symm
      rw [ai_n (by omega), ai_n (by omega), if_neg q]; exact (c5 j hj).2.1
  · have ej := eO_in hl hj
    have e5 : eO l + 1 ≠ eO j := ej.2.1
    have e6 : eO j + 1 ≠ eO l := (eO_in hj hl).2.1
    rw [ecd_add]
    rw [n_add] at hk
    by_cases q : j = l
    · subst q
      rw [if_pos rfl] at hk
      rw [ai_n (by omega)]
      by_cases q2 : k = R_n R j
      · rw [q2, ai_y, if_pos ⟨rfl, rfl⟩]
      · rw [ai_n (by omega), if_neg (by omega)]
        exact (c5 j hj).2.2 k (by omega)
    · rw [if_neg q] at hk
      have : eO l ≠ eO j := fun z => q (ej.1 z).symm
      have e3 := eO_in hj hl
      rw [ai_n (by omega), ai_n (by omega), if_neg (fun z => q z.1)]
      exact (c5 j hj).2.2 k hk
  · rw [ai_n (by omega), ai_n (by omega)]; exact c6
  · rw [ai_n (by omega), ai_n (by omega), ai_n (by omega), ai_n (by omega)]; exact c7 z
  · rw [ai_n (by omega), ai_n (by omega)]
    rw [n_add] at hk
    by_cases q : 4 = l
    · rw [if_pos q, ← q] at hk
      by_cases q2 : k = R_n R 4
      · rw [q2]; exact hw q.symm
      · exact c8 k (by omega)
    · rw [if_neg q] at hk
      exact c8 k hk
  · rw [ai_n (by omega), ai_n (by omega)]; exact c9
  · rw [ai_n (by omega), ai_n (by omega), ai_n (by omega), ai_n (by omega)]; exact c10 v hv z
theorem RSh.fr {h h' : AH} {S : Nat → Nat → Prop} {r : Nat} (s : RSh h r) (f : FR h h' S) : RSh h' r := by
  unfold RSh ESh at *
  simp only [f.k.1, f.k.2.1, f.k.2.2]
  exact s
def DRC (h : AH) (r : Nat) (R : RW) : Prop := ah_r h 0 4 = some r ∧ RSh h r ∧ RCo h r R ∧ 3 ≤ r
def DRM (h : AH) (R : RW) : Prop := MRw h 51 0 R
section CLS
variable {sc : (Nat → Int32) × Nat} {d : Nat} {h : AH} {Q : Rs → AH → Prop} {np : Nat} {pl : Nat → Nat} {r : Nat} {R : RW}
theorem c_38 (s : RSh h r) (c : RCo h r R) {l p x y : Nat} (hl : l < 4) (hn : R_n R l < 3) : TC sc (d + 3) 38 [.ref (r + eO l), .int (nI p), .int (tm x), .int (tm y)] h Q ↔ Q (.inl (some (.int (nI (R_n R l + 1))))) (ap_i (ap_i h (r + eO l + 1) (R_n R l) (nI (p * 1024 + x * 32 + y))) (r + eO l) 2 (nI (R_n R l + 1))) := TC_of (fun Q hq => by
  have es := s.2.2.2.2.2.2.2.2.2.2.2.2.2.2.2.2.2.2.2 l (by omega)
  obtain ⟨c1, c2, -⟩ := c.2.2.2.2.1 l (by omega)
  rw [if_neg (by omega)] at c1
  have dl : decide (3 ≤ R_n R l) = false := decide_eq_false (by omega)
  generalize r + eO l = z at *
  refine TC_e (ls := [.ref z, .int (nI p), .int (tm x), .int (tm y)]) (Nat.le_of_ble_eq_true rfl) rfl (wx_sound (S := []) 60 true _ _ _ _ ?_)
  simp +contextual (disch := omega) only [K38, wx_t, wx_g, wJ_t, wJ_f, wI_s, CI, CL, C01, aftC_v, aftC_n, true_or, or_true, true_and, and_true, inS_n, inS_c, pI_c, pL_c, pA_c, pV_c, pE_c, pQ_s, pQ_n, pQ_r, cm_eq', cm_ne', cm_lt', cm_ge', cm_gt', cm_le', List.getD_cons_zero, List.getD_cons_succ, Nat.reduceAdd, Nat.reduceBEq, Bool.false_or, Bool.or_false, Bool.true_or, Int.reduceToNat, s_iload, s_lload, s_aload, s_istore, s_astore, s_lstore, s_iconst, s_sipush, s_aconst_null, s_iadd, s_isub, s_imul, s_iand, s_ior, s_ixor, s_idiv, s_irem, s_ishl, s_ishr, s_iushr, s_ladd, s_lsub, s_land, s_lor, s_lxor, s_lneg, s_lshl, s_lshr, s_lushr, s_i2l, s_l2i, s_lcmp, s_dup, s_pop, s_dup2, s_i2c, s_i2s, s_monitorenter, s_ifCond, s_if_icmp, s_ifnull, s_goto, s_iinc, s_tableswitch, s_ireturn, s_freturn, s_lreturn, s_areturn, s_return_, s_ldc, s_getfield, s_putfield, s_iaload, s_iastore, s_laload, s_lastore, s_baload, s_bastore, s_aaload, s_aastore, s_arraylength, s_newarray, s_anewarray, s_new, s_invokestatic, s_invokespecial, s_invokevirtual, fvl_0, fvl_1, fvl_2, fvl_3, fp_0, fp_1, fp_2, fp_3, rf_s, rf_n, isRf_b, knw_b, isLg_b, popA_0, popA_s, st1_0, st1_s, st2_e, set_0, set_s, aftC_e, hxP_s, hxP_n, iteF, iteT, bft, im_t, im_f, nt_f, nt_t, Nat.reduceDiv, Nat.reduceMod, Nat.reduceLeDiff, Nat.reduceLT, Nat.reduceEqDiff, List.length_cons, List.length_nil, Nat.zero_add, Nat.reduceSub, List.cons_append, List.nil_append, ak_i, az_i, ar_i, al_i, ai_i, ak_l, az_l, ar_l, al_l, ai_l, ak_r, az_r, ar_r, al_r, ai_r, pk_m1, reduceCtorEq, msk_tb, mskL, Bool.and_eq_true, decide_eq_true_eq, lg_0, lg_t, lg_g, lg_e, lg_l, tb_z, Nat.mod_eq_of_lt, lN_1s, and_ze, brT, brF, brN, vpT, a4095, a63, nI_e, nI_l', nI_t', dif_z, and_z, and_zr, lN_e, nI_clamp, nx_shr, Nat.reducePow, bI_0, bI_1, bI_z, bI_o, bI_or, n01, nI_add, pk_mul, nx_and, nx_or, nx_dif, lx_and, lx_or, lx_dif, Bool.not_eq_true, Bool.not_eq_false, Bool.true_eq_false, Bool.false_eq_true, es.1, c_155 es c1 c2 (show R_n R l ≤ 4 by omega) (by decide), dl, c_156 es c1 c2 hn (by decide), false_and, if_false]
  exact hq) Q
theorem c_38n (s : RSh h r) (c : RCo h r R) {l : Nat} {p x y : Int32} (hl : l < 4) (hn : R_n R l = 3) : TC sc (d + 3) 38 [.ref (r + eO l), .int p, .int x, .int y] h Q ↔ Q (.inr 1) (ap_n h 30 0 6) := TC_of (fun Q hq => by
  have es := s.2.2.2.2.2.2.2.2.2.2.2.2.2.2.2.2.2.2.2 l (by omega)
  obtain ⟨c1, c2, -⟩ := c.2.2.2.2.1 l (by omega)
  rw [if_neg (by omega)] at c1
  rw [hn] at c2
  generalize r + eO l = z at *
  refine TC_e (ls := [.ref z, .int p, .int x, .int y]) (Nat.le_of_ble_eq_true rfl) rfl (wx_sound (S := []) 60 true _ _ _ _ ?_)
  simp +contextual (disch := omega) only [K38, wx_t, wx_g, wJ_t, wJ_f, wI_s, CI, CL, C01, aftC_v, aftC_n, true_or, or_true, true_and, and_true, inS_n, inS_c, pI_c, pL_c, pA_c, pV_c, pE_c, pQ_s, pQ_n, pQ_r, cm_eq', cm_ne', cm_lt', cm_ge', cm_gt', cm_le', List.getD_cons_zero, List.getD_cons_succ, Nat.reduceAdd, Nat.reduceBEq, Bool.false_or, Bool.or_false, Bool.true_or, Int.reduceToNat, s_iload, s_lload, s_aload, s_istore, s_astore, s_lstore, s_iconst, s_sipush, s_aconst_null, s_iadd, s_isub, s_imul, s_iand, s_ior, s_ixor, s_idiv, s_irem, s_ishl, s_ishr, s_iushr, s_ladd, s_lsub, s_land, s_lor, s_lxor, s_lneg, s_lshl, s_lshr, s_lushr, s_i2l, s_l2i, s_lcmp, s_dup, s_pop, s_dup2, s_i2c, s_i2s, s_monitorenter, s_ifCond, s_if_icmp, s_ifnull, s_goto, s_iinc, s_tableswitch, s_ireturn, s_freturn, s_lreturn, s_areturn, s_return_, s_ldc, s_getfield, s_putfield, s_iaload, s_iastore, s_laload, s_lastore, s_baload, s_bastore, s_aaload, s_aastore, s_arraylength, s_newarray, s_anewarray, s_new, s_invokestatic, s_invokespecial, s_invokevirtual, fvl_0, fvl_1, fvl_2, fvl_3, fp_0, fp_1, fp_2, fp_3, rf_s, rf_n, isRf_b, knw_b, isLg_b, popA_0, popA_s, st1_0, st1_s, st2_e, set_0, set_s, aftC_e, hxP_s, hxP_n, iteF, iteT, bft, im_t, im_f, nt_f, nt_t, Nat.reduceDiv, Nat.reduceMod, Nat.reduceLeDiff, Nat.reduceLT, Nat.reduceEqDiff, List.length_cons, List.length_nil, Nat.zero_add, Nat.reduceSub, List.cons_append, List.nil_append, ak_i, az_i, ar_i, al_i, ai_i, ak_l, az_l, ar_l, al_l, ai_l, ak_r, az_r, ar_r, al_r, ai_r, pk_m1, reduceCtorEq, msk_tb, mskL, Bool.and_eq_true, decide_eq_true_eq, lg_0, lg_t, lg_g, lg_e, lg_l, tb_z, Nat.mod_eq_of_lt, lN_1s, and_ze, brT, brF, brN, vpT, a4095, a63, nI_e, nI_l', nI_t', dif_z, and_z, and_zr, lN_e, nI_clamp, nx_shr, Nat.reducePow, bI_0, bI_1, bI_z, bI_o, bI_or, n01, nI_add, pk_mul, nx_and, nx_or, nx_dif, lx_and, lx_or, lx_dif, Bool.not_eq_true, Bool.not_eq_false, Bool.true_eq_false, Bool.false_eq_true, es.1, c_155 es c1 c2 (show 3 ≤ 4 by omega) (by decide), Nat.le_refl, decide_true]
  exact hq) Q
/-- the cells that a call on the draft reads -/
theorem DRC.s (c : DRC h r R) : ah_r h 0 4 = some r ∧ ah_k h r = 8 ∧ ah_r h r 0 = some (r + 1) ∧ ah_r h r 1 = some (r + eO 1) ∧ ah_r h r 2 = some (r + eO 2) ∧ ah_r h r 3 = some (r + eO 3) ∧ ah_r h r 4 = some (r + 10) ∧ ah_r h r 5 = some (r + 14) ∧ ah_r h r 6 = some (r + 15) ∧
  ah_k h (r + 1) = 5 ∧ ah_r h (r + 1) 1 = some (r + eO 0) ∧ ah_k h (r + 10) = 10 ∧ ah_r h (r + 10) 3 = some (r + eO 4) ∧ ah_r h (r + 10) 4 = some (r + 13) ∧ ah_k h (r + 13) = 20 ∧ ah_z h (r + 13) = 4 ∧ ah_k h (r + 14) = 20 ∧ ah_z h (r + 14) = 4 ∧ ah_k h (r + 15) = 20 ∧ ah_z h (r + 15) = 4 ∧ ah_k h (r + eO 0) = 1 ∧ ah_k h (r + eO 1) = 1 ∧ ah_k h (r + eO 2) = 1 ∧ ah_k h (r + eO 3) = 1 ∧ ah_k h (r + eO 4) = 1 := by
  obtain ⟨h1, h2, -⟩ := c
  unfold RSh at h2
  have e := h2.2.2.2.2.2.2.2.2.2.2.2.2.2.2.2.2.2.2.2
  exact ⟨h1, h2.1, h2.2.1, h2.2.2.1, h2.2.2.2.1, h2.2.2.2.2.1, h2.2.2.2.2.2.1, h2.2.2.2.2.2.2.1, h2.2.2.2.2.2.2.2.1, h2.2.2.2.2.2.2.2.2.1, h2.2.2.2.2.2.2.2.2.2.1, h2.2.2.2.2.2.2.2.2.2.2.1, h2.2.2.2.2.2.2.2.2.2.2.2.1, h2.2.2.2.2.2.2.2.2.2.2.2.2.1, h2.2.2.2.2.2.2.2.2.2.2.2.2.2.1, h2.2.2.2.2.2.2.2.2.2.2.2.2.2.2.1, h2.2.2.2.2.2.2.2.2.2.2.2.2.2.2.2.1, h2.2.2.2.2.2.2.2.2.2.2.2.2.2.2.2.2.1, h2.2.2.2.2.2.2.2.2.2.2.2.2.2.2.2.2.2.1, h2.2.2.2.2.2.2.2.2.2.2.2.2.2.2.2.2.2.2.1, (e 0 (by omega)).1, (e 1 (by omega)).1, (e 2 (by omega)).1, (e 3 (by omega)).1, (e 4 (by omega)).1⟩
def pushC (h : AH) (r : Nat) (R : RW) (l p x y : Nat) : AH := ap_i (ap_i h (r + eO l + 1) (R_n R l) (nI (p * 1024 + x * 32 + y))) (r + eO l) 2 (nI (R_n R l + 1))
theorem d_2p (hp : SHP h) (pc : PLC h np pl) {p : Int32} (hp1 : ¬ vp_in p np) (a b : Int32) : TC sc (d + 4) 2 [.ref 0, .int p, .int a, .int b] h Q ↔ Q (.inr 2) (ap_n h 30 0 6) := TC_of (fun Q hq => by
  refine TC_e (ls := [.ref 0, .int p, .int a, .int b]) (Nat.le_of_ble_eq_true rfl) rfl (wx_sound (S := []) 60 true _ _ _ _ ?_)
  simp +contextual (disch := omega) only [K2, wx_t, wx_g, wJ_t, wJ_f, wI_s, CI, CL, C01, aftC_v, aftC_n, true_or, or_true, true_and, and_true, inS_n, inS_c, pI_c, pL_c, pA_c, pV_c, pE_c, pQ_s, pQ_n, pQ_r, cm_eq', cm_ne', cm_lt', cm_ge', cm_gt', cm_le', List.getD_cons_zero, List.getD_cons_succ, Nat.reduceAdd, Nat.reduceBEq, Bool.false_or, Bool.or_false, Bool.true_or, Int.reduceToNat, s_iload, s_lload, s_aload, s_istore, s_astore, s_lstore, s_iconst, s_sipush, s_aconst_null, s_iadd, s_isub, s_imul, s_iand, s_ior, s_ixor, s_idiv, s_irem, s_ishl, s_ishr, s_iushr, s_ladd, s_lsub, s_land, s_lor, s_lxor, s_lneg, s_lshl, s_lshr, s_lushr, s_i2l, s_l2i, s_lcmp, s_dup, s_pop, s_dup2, s_i2c, s_i2s, s_monitorenter, s_ifCond, s_if_icmp, s_ifnull, s_goto, s_iinc, s_tableswitch, s_ireturn, s_freturn, s_lreturn, s_areturn, s_return_, s_ldc, s_getfield, s_putfield, s_iaload, s_iastore, s_laload, s_lastore, s_baload, s_bastore, s_aaload, s_aastore, s_arraylength, s_newarray, s_anewarray, s_new, s_invokestatic, s_invokespecial, s_invokevirtual, fvl_0, fvl_1, fvl_2, fvl_3, fp_0, fp_1, fp_2, fp_3, rf_s, rf_n, isRf_b, knw_b, isLg_b, popA_0, popA_s, st1_0, st1_s, st2_e, set_0, set_s, aftC_e, hxP_s, hxP_n, iteF, iteT, bft, im_t, im_f, nt_f, nt_t, Nat.reduceDiv, Nat.reduceMod, Nat.reduceLeDiff, Nat.reduceLT, Nat.reduceEqDiff, List.length_cons, List.length_nil, Nat.zero_add, Nat.reduceSub, List.cons_append, List.nil_append, ak_i, az_i, ar_i, al_i, ai_i, ak_l, az_l, ar_l, al_l, ai_l, ak_r, az_r, ar_r, al_r, ai_r, pk_m1, reduceCtorEq, msk_tb, mskL, Bool.and_eq_true, decide_eq_true_eq, lg_0, lg_t, lg_g, lg_e, lg_l, tb_z, Nat.mod_eq_of_lt, lN_1s, and_ze, brT, brF, brN, vpT, a4095, a63, nI_e, nI_l', nI_t', dif_z, and_z, and_zr, lN_e, nI_clamp, nx_shr, Nat.reducePow, bI_0, bI_1, bI_z, bI_o, bI_or, n01, nI_add, pk_mul, nx_and, nx_or, nx_dif, lx_and, lx_or, lx_dif, Bool.not_eq_true, Bool.not_eq_false, Bool.true_eq_false, Bool.false_eq_true, ss_0 hp, d_35p hp pc hp1, mt_35, hx_2_5]
  exact hq) Q
theorem d_2n (hp : SHP h) (pc : PLC h np pl) {p : Nat} (hp1 : p < np) {a b : Int32} (ht : trmB pl p (-4) a b = false) : TC sc (d + 4) 2 [.ref 0, .int (nI p), .int a, .int b] h Q ↔ Q (.inr 0) (ap_n h 30 0 6) := TC_of (fun Q hq => by
  refine TC_e (ls := [.ref 0, .int (nI p), .int a, .int b]) (Nat.le_of_ble_eq_true rfl) rfl (wx_sound (S := []) 60 true _ _ _ _ ?_)
  simp +contextual (disch := omega) only [K2, wx_t, wx_g, wJ_t, wJ_f, wI_s, CI, CL, C01, aftC_v, aftC_n, true_or, or_true, true_and, and_true, inS_n, inS_c, pI_c, pL_c, pA_c, pV_c, pE_c, pQ_s, pQ_n, pQ_r, cm_eq', cm_ne', cm_lt', cm_ge', cm_gt', cm_le', List.getD_cons_zero, List.getD_cons_succ, Nat.reduceAdd, Nat.reduceBEq, Bool.false_or, Bool.or_false, Bool.true_or, Int.reduceToNat, s_iload, s_lload, s_aload, s_istore, s_astore, s_lstore, s_iconst, s_sipush, s_aconst_null, s_iadd, s_isub, s_imul, s_iand, s_ior, s_ixor, s_idiv, s_irem, s_ishl, s_ishr, s_iushr, s_ladd, s_lsub, s_land, s_lor, s_lxor, s_lneg, s_lshl, s_lshr, s_lushr, s_i2l, s_l2i, s_lcmp, s_dup, s_pop, s_dup2, s_i2c, s_i2s, s_monitorenter, s_ifCond, s_if_icmp, s_ifnull, s_goto, s_iinc, s_tableswitch, s_ireturn, s_freturn, s_lreturn, s_areturn, s_return_, s_ldc, s_getfield, s_putfield, s_iaload, s_iastore, s_laload, s_lastore, s_baload, s_bastore, s_aaload, s_aastore, s_arraylength, s_newarray, s_anewarray, s_new, s_invokestatic, s_invokespecial, s_invokevirtual, fvl_0, fvl_1, fvl_2, fvl_3, fp_0, fp_1, fp_2, fp_3, rf_s, rf_n, isRf_b, knw_b, isLg_b, popA_0, popA_s, st1_0, st1_s, st2_e, set_0, set_s, aftC_e, hxP_s, hxP_n, iteF, iteT, bft, im_t, im_f, nt_f, nt_t, Nat.reduceDiv, Nat.reduceMod, Nat.reduceLeDiff, Nat.reduceLT, Nat.reduceEqDiff, List.length_cons, List.length_nil, Nat.zero_add, Nat.reduceSub, List.cons_append, List.nil_append, ak_i, az_i, ar_i, al_i, ai_i, ak_l, az_l, ar_l, al_l, ai_l, ak_r, az_r, ar_r, al_r, ai_r, pk_m1, reduceCtorEq, msk_tb, mskL, Bool.and_eq_true, decide_eq_true_eq, lg_0, lg_t, lg_g, lg_e, lg_l, tb_z, Nat.mod_eq_of_lt, lN_1s, and_ze, brT, brF, brN, vpT, a4095, a63, nI_e, nI_l', nI_t', dif_z, and_z, and_zr, lN_e, nI_clamp, nx_shr, Nat.reducePow, bI_0, bI_1, bI_z, bI_o, bI_or, n01, nI_add, pk_mul, nx_and, nx_or, nx_dif, lx_and, lx_or, lx_dif, Bool.not_eq_true, Bool.not_eq_false, Bool.true_eq_false, Bool.false_eq_true, ss_0 hp, d_35n hp pc hp1 ht, mt_35, hx_2_5]
  exact hq) Q
theorem d_2k (hp : SHP h) (pc : PLC h np pl) (c : DRC h r R) {p : Nat} (hp1 : p < np) {a b : Int32} (ht : trmB pl p (-4) a b = true) (hk : R_kd R ≤ 3) (hf : 2 ≤ R_kd R ∨ R_n R 0 = 3) : TC sc (d + 4) 2 [.ref 0, .int (nI p), .int a, .int b] h Q ↔ Q (.inr 1) (ap_n h 30 0 6) := TC_of (fun Q hq => by
  have cs := c.s
  obtain ⟨k1, -⟩ := c.2.2.1
  by_cases k2 : R_kd R = 2
  · rw [k2] at k1
    refine TC_e (ls := [.ref 0, .int (nI p), .int a, .int b]) (Nat.le_of_ble_eq_true rfl) rfl (wx_sound (S := []) 60 true _ _ _ _ ?_)
    simp +contextual (disch := omega) only [K2, wx_t, wx_g, wJ_t, wJ_f, wI_s, CI, CL, C01, aftC_v, aftC_n, true_or, or_true, true_and, and_true, inS_n, inS_c, pI_c, pL_c, pA_c, pV_c, pE_c, pQ_s, pQ_n, pQ_r, cm_eq', cm_ne', cm_lt', cm_ge', cm_gt', cm_le', List.getD_cons_zero, List.getD_cons_succ, Nat.reduceAdd, Nat.reduceBEq, Bool.false_or, Bool.or_false, Bool.true_or, Int.reduceToNat, s_iload, s_lload, s_aload, s_istore, s_astore, s_lstore, s_iconst, s_sipush, s_aconst_null, s_iadd, s_isub, s_imul, s_iand, s_ior, s_ixor, s_idiv, s_irem, s_ishl, s_ishr, s_iushr, s_ladd, s_lsub, s_land, s_lor, s_lxor, s_lneg, s_lshl, s_lshr, s_lushr, s_i2l, s_l2i, s_lcmp, s_dup, s_pop, s_dup2, s_i2c, s_i2s, s_monitorenter, s_ifCond, s_if_icmp, s_ifnull, s_goto, s_iinc, s_tableswitch, s_ireturn, s_freturn, s_lreturn, s_areturn, s_return_, s_ldc, s_getfield, s_putfield, s_iaload, s_iastore, s_laload, s_lastore, s_baload, s_bastore, s_aaload, s_aastore, s_arraylength, s_newarray, s_anewarray, s_new, s_invokestatic, s_invokespecial, s_invokevirtual, fvl_0, fvl_1, fvl_2, fvl_3, fp_0, fp_1, fp_2, fp_3, rf_s, rf_n, isRf_b, knw_b, isLg_b, popA_0, popA_s, st1_0, st1_s, st2_e, set_0, set_s, aftC_e, hxP_s, hxP_n, iteF, iteT, bft, im_t, im_f, nt_f, nt_t, Nat.reduceDiv, Nat.reduceMod, Nat.reduceLeDiff, Nat.reduceLT, Nat.reduceEqDiff, List.length_cons, List.length_nil, Nat.zero_add, Nat.reduceSub, List.cons_append, List.nil_append, ak_i, az_i, ar_i, al_i, ai_i, ak_l, az_l, ar_l, al_l, ai_l, ak_r, az_r, ar_r, al_r, ai_r, pk_m1, reduceCtorEq, msk_tb, mskL, Bool.and_eq_true, decide_eq_true_eq, lg_0, lg_t, lg_g, lg_e, lg_l, tb_z, Nat.mod_eq_of_lt, lN_1s, and_ze, brT, brF, brN, vpT, a4095, a63, nI_e, nI_l', nI_t', dif_z, and_z, and_zr, lN_e, nI_clamp, nx_shr, Nat.reducePow, bI_0, bI_1, bI_z, bI_o, bI_or, n01, nI_add, pk_mul, nx_and, nx_or, nx_dif, lx_and, lx_or, lx_dif, Bool.not_eq_true, Bool.not_eq_false, Bool.true_eq_false, Bool.false_eq_true, ss_0 hp, cs, d_35 hp pc hp1 ht, k1]
    exact hq
  · by_cases k3 : R_kd R = 3
    · rw [k3] at k1
      refine TC_e (ls := [.ref 0, .int (nI p), .int a, .int b]) (Nat.le_of_ble_eq_true rfl) rfl (wx_sound (S := []) 60 true _ _ _ _ ?_)
      simp +contextual (disch := omega) only [K2, wx_t, wx_g, wJ_t, wJ_f, wI_s, CI, CL, C01, aftC_v, aftC_n, true_or, or_true, true_and, and_true, inS_n, inS_c, pI_c, pL_c, pA_c, pV_c, pE_c, pQ_s, pQ_n, pQ_r, cm_eq', cm_ne', cm_lt', cm_ge', cm_gt', cm_le', List.getD_cons_zero, List.getD_cons_succ, Nat.reduceAdd, Nat.reduceBEq, Bool.false_or, Bool.or_false, Bool.true_or, Int.reduceToNat, s_iload, s_lload, s_aload, s_istore, s_astore, s_lstore, s_iconst, s_sipush, s_aconst_null, s_iadd, s_isub, s_imul, s_iand, s_ior, s_ixor, s_idiv, s_irem, s_ishl, s_ishr, s_iushr, s_ladd, s_lsub, s_land, s_lor, s_lxor, s_lneg, s_lshl, s_lshr, s_lushr, s_i2l, s_l2i, s_lcmp, s_dup, s_pop, s_dup2, s_i2c, s_i2s, s_monitorenter, s_ifCond, s_if_icmp, s_ifnull, s_goto, s_iinc, s_tableswitch, s_ireturn, s_freturn, s_lreturn, s_areturn, s_return_, s_ldc, s_getfield, s_putfield, s_iaload, s_iastore, s_laload, s_lastore, s_baload, s_bastore, s_aaload, s_aastore, s_arraylength, s_newarray, s_anewarray, s_new, s_invokestatic, s_invokespecial, s_invokevirtual, fvl_0, fvl_1, fvl_2, fvl_3, fp_0, fp_1, fp_2, fp_3, rf_s, rf_n, isRf_b, knw_b, isLg_b, popA_0, popA_s, st1_0, st1_s, st2_e, set_0, set_s, aftC_e, hxP_s, hxP_n, iteF, iteT, bft, im_t, im_f, nt_f, nt_t, Nat.reduceDiv, Nat.reduceMod, Nat.reduceLeDiff, Nat.reduceLT, Nat.reduceEqDiff, List.length_cons, List.length_nil, Nat.zero_add, Nat.reduceSub, List.cons_append, List.nil_append, ak_i, az_i, ar_i, al_i, ai_i, ak_l, az_l, ar_l, al_l, ai_l, ak_r, az_r, ar_r, al_r, ai_r, pk_m1, reduceCtorEq, msk_tb, mskL, Bool.and_eq_true, decide_eq_true_eq, lg_0, lg_t, lg_g, lg_e, lg_l, tb_z, Nat.mod_eq_of_lt, lN_1s, and_ze, brT, brF, brN, vpT, a4095, a63, nI_e, nI_l', nI_t', dif_z, and_z, and_zr, lN_e, nI_clamp, nx_shr, Nat.reducePow, bI_0, bI_1, bI_z, bI_o, bI_or, n01, nI_add, pk_mul, nx_and, nx_or, nx_dif, lx_and, lx_or, lx_dif, Bool.not_eq_true, Bool.not_eq_false, Bool.true_eq_false, Bool.false_eq_true, ss_0 hp, cs, d_35 hp pc hp1 ht, k1]
      exact hq
    · have h0 : R_n R 0 = 3 := by omega
      refine TC_e (ls := [.ref 0, .int (nI p), .int a, .int b]) (Nat.le_of_ble_eq_true rfl) rfl (wx_sound (S := []) 60 true _ _ _ _ ?_)
      simp +contextual (disch := omega) only [K2, wx_t, wx_g, wJ_t, wJ_f, wI_s, CI, CL, C01, aftC_v, aftC_n, true_or, or_true, true_and, and_true, inS_n, inS_c, pI_c, pL_c, pA_c, pV_c, pE_c, pQ_s, pQ_n, pQ_r, cm_eq', cm_ne', cm_lt', cm_ge', cm_gt', cm_le', List.getD_cons_zero, List.getD_cons_succ, Nat.reduceAdd, Nat.reduceBEq, Bool.false_or, Bool.or_false, Bool.true_or, Int.reduceToNat, s_iload, s_lload, s_aload, s_istore, s_astore, s_lstore, s_iconst, s_sipush, s_aconst_null, s_iadd, s_isub, s_imul, s_iand, s_ior, s_ixor, s_idiv, s_irem, s_ishl, s_ishr, s_iushr, s_ladd, s_lsub, s_land, s_lor, s_lxor, s_lneg, s_lshl, s_lshr, s_lushr, s_i2l, s_l2i, s_lcmp, s_dup, s_pop, s_dup2, s_i2c, s_i2s, s_monitorenter, s_ifCond, s_if_icmp, s_ifnull, s_goto, s_iinc, s_tableswitch, s_ireturn, s_freturn, s_lreturn, s_areturn, s_return_, s_ldc, s_getfield, s_putfield, s_iaload, s_iastore, s_laload, s_lastore, s_baload, s_bastore, s_aaload, s_aastore, s_arraylength, s_newarray, s_anewarray, s_new, s_invokestatic, s_invokespecial, s_invokevirtual, fvl_0, fvl_1, fvl_2, fvl_3, fp_0, fp_1, fp_2, fp_3, rf_s, rf_n, isRf_b, knw_b, isLg_b, popA_0, popA_s, st1_0, st1_s, st2_e, set_0, set_s, aftC_e, hxP_s, hxP_n, iteF, iteT, bft, im_t, im_f, nt_f, nt_t, Nat.reduceDiv, Nat.reduceMod, Nat.reduceLeDiff, Nat.reduceLT, Nat.reduceEqDiff, List.length_cons, List.length_nil, Nat.zero_add, Nat.reduceSub, List.cons_append, List.nil_append, ak_i, az_i, ar_i, al_i, ai_i, ak_l, az_l, ar_l, al_l, ai_l, ak_r, az_r, ar_r, al_r, ai_r, pk_m1, reduceCtorEq, msk_tb, mskL, Bool.and_eq_true, decide_eq_true_eq, lg_0, lg_t, lg_g, lg_e, lg_l, tb_z, Nat.mod_eq_of_lt, lN_1s, and_ze, brT, brF, brN, vpT, a4095, a63, nI_e, nI_l', nI_t', dif_z, and_z, and_zr, lN_e, nI_clamp, nx_shr, Nat.reducePow, bI_0, bI_1, bI_z, bI_o, bI_or, n01, nI_add, pk_mul, nx_and, nx_or, nx_dif, lx_and, lx_or, lx_dif, Bool.not_eq_true, Bool.not_eq_false, Bool.true_eq_false, Bool.false_eq_true, ss_0 hp, cs, d_35 hp pc hp1 ht, k1, k2, k3, c_38n c.2.1 c.2.2.1 (show 0 < 4 by omega) h0, mt_38, hx_2_30]
      exact hq) Q
theorem d_2 (hp : SHP h) (pc : PLC h np pl) (c : DRC h r R) {p x y : Nat} (hp1 : p < np) (ht : trmB pl p (-4) (tm x) (tm y) = true) (hk : R_kd R < 2) (hf : R_n R 0 < 3) : TC sc (d + 4) 2 [.ref 0, .int (nI p), .int (tm x), .int (tm y)] h Q ↔ Q (.inl (some (.int (nI (R_n R 0 + 1))))) (pushC h r R 0 p x y) := TC_of (fun Q hq => by
  have cs := c.s
  obtain ⟨k1, -⟩ := c.2.2.1
  have k2 : R_kd R ≠ 2 := by omega
  have k3 : R_kd R ≠ 3 := by omega
  refine TC_e (ls := [.ref 0, .int (nI p), .int (tm x), .int (tm y)]) (Nat.le_of_ble_eq_true rfl) rfl (wx_sound (S := []) 60 true _ _ _ _ ?_)
  simp +contextual (disch := omega) only [K2, wx_t, wx_g, wJ_t, wJ_f, wI_s, CI, CL, C01, aftC_v, aftC_n, true_or, or_true, true_and, and_true, inS_n, inS_c, pI_c, pL_c, pA_c, pV_c, pE_c, pQ_s, pQ_n, pQ_r, cm_eq', cm_ne', cm_lt', cm_ge', cm_gt', cm_le', List.getD_cons_zero, List.getD_cons_succ, Nat.reduceAdd, Nat.reduceBEq, Bool.false_or, Bool.or_false, Bool.true_or, Int.reduceToNat, s_iload, s_lload, s_aload, s_istore, s_astore, s_lstore, s_iconst, s_sipush, s_aconst_null, s_iadd, s_isub, s_imul, s_iand, s_ior, s_ixor, s_idiv, s_irem, s_ishl, s_ishr, s_iushr, s_ladd, s_lsub, s_land, s_lor, s_lxor, s_lneg, s_lshl, s_lshr, s_lushr, s_i2l, s_l2i, s_lcmp, s_dup, s_pop, s_dup2, s_i2c, s_i2s, s_monitorenter, s_ifCond, s_if_icmp, s_ifnull, s_goto, s_iinc, s_tableswitch, s_ireturn, s_freturn, s_lreturn, s_areturn, s_return_, s_ldc, s_getfield, s_putfield, s_iaload, s_iastore, s_laload, s_lastore, s_baload, s_bastore, s_aaload, s_aastore, s_arraylength, s_newarray, s_anewarray, s_new, s_invokestatic, s_invokespecial, s_invokevirtual, fvl_0, fvl_1, fvl_2, fvl_3, fp_0, fp_1, fp_2, fp_3, rf_s, rf_n, isRf_b, knw_b, isLg_b, popA_0, popA_s, st1_0, st1_s, st2_e, set_0, set_s, aftC_e, hxP_s, hxP_n, iteF, iteT, bft, im_t, im_f, nt_f, nt_t, Nat.reduceDiv, Nat.reduceMod, Nat.reduceLeDiff, Nat.reduceLT, Nat.reduceEqDiff, List.length_cons, List.length_nil, Nat.zero_add, Nat.reduceSub, List.cons_append, List.nil_append, ak_i, az_i, ar_i, al_i, ai_i, ak_l, az_l, ar_l, al_l, ai_l, ak_r, az_r, ar_r, al_r, ai_r, pk_m1, reduceCtorEq, msk_tb, mskL, Bool.and_eq_true, decide_eq_true_eq, lg_0, lg_t, lg_g, lg_e, lg_l, tb_z, Nat.mod_eq_of_lt, lN_1s, and_ze, brT, brF, brN, vpT, a4095, a63, nI_e, nI_l', nI_t', dif_z, and_z, and_zr, lN_e, nI_clamp, nx_shr, Nat.reducePow, bI_0, bI_1, bI_z, bI_o, bI_or, n01, nI_add, pk_mul, nx_and, nx_or, nx_dif, lx_and, lx_or, lx_dif, Bool.not_eq_true, Bool.not_eq_false, Bool.true_eq_false, Bool.false_eq_true, ss_0 hp, cs, d_35 hp pc hp1 ht, k1, k2, k3, c_38 c.2.1 c.2.2.1 (show 0 < 4 by omega) hf]
  exact hq) Q
end CLS
