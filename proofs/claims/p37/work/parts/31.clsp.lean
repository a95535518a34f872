/-! THE CLASS'S PROGRAM -/
theorem up_to {m : Nat} {p : Nat → Prop} (H : ∀ k, k ≤ m → (k < m → p (k + 1)) → p k) : ∀ k, k ≤ m → p k := by
  have : ∀ j k, k + j = m → p k := by
    intro j
    induction j with
    | zero => exact fun k hk => H k (by omega) fun h => absurd h (by omega)
    | succ j ih => exact fun k hk => H k (by omega) fun _ => ih (k + 1) (by omega)
  exact fun k hk => this (m - k) k (by omega)
theorem msk_add {m k : Nat} {f g : Nat → Bool} (hk : k < m) (h1 : g k = true) (h2 : ∀ i, i < m → i ≠ k → g i = f i) : msk m f ||| 2 ^ k = msk m g := eq_msk (or_lt (msk_lt m f) (p2_lt hk)) fun i hi => by
  rw [Nat.testBit_or, msk_tb, tb_pow]
  by_cases e : k = i
  · subst e; simp [h1]
  · simp [hi, e, h2 i hi (fun z => e z.symm)]
theorem dlt {i k : Nat} (h : i ≠ k) : decide (i < k + 1) = decide (i < k) := decide_eq_decide.mpr (by omega)
def hl (P : PG) (s : Nat) : Nat := msk (P_m P) fun i => holds P i s
def hdd (P : PG) (s : Nat) : Nat := msk (P_m P) fun i => !decide (P_hd P i &&& s = 0)
def CP (h : AH) (P : PG) : Prop := SHP h ∧ RPT h P ∧ P_ok P
theorem CP.n {h : AH} {P : PG} (c : CP h P) : P_n P ≤ 12 := c.2.2.1
theorem CP.m {h : AH} {P : PG} (c : CP h P) : P_m P ≤ 60 := c.2.2.2.1
theorem CP.pn {h : AH} {P : PG} (c : CP h P) : 2 ^ P_n P ≤ 4096 := p2_le (n := 12) c.n
theorem CP.mp {h : AH} {P : PG} (c : CP h P) (f : Nat → Bool) : msk (P_m P) f < 1152921504606846976 := Nat.lt_of_lt_of_le (msk_lt _ _) (p2_le (n := 60) c.m)
theorem CP.f {h : AH} {P : PG} (c : CP h P) : ah_i h 31 11 = nI (P_n P) ∧ ah_i h 31 12 = nI (P_m P) ∧
  ah_l h 31 13 = lN (msk (P_m P) fun i => decide (P_kd P i = 0)) ∧ ah_l h 31 14 = lN (msk (P_m P) fun i => decide (P_kd P i = 1)) ∧ ah_l h 31 15 = lN (msk (P_m P) (P_hs P)) ∧
  ah_l h 31 16 = lN (msk (P_m P) fun i => decide (P_kd P i = 2)) ∧ ah_l h 31 17 = lN (msk (P_m P) fun i => decide (P_kd P i = 3)) := ⟨c.2.1.1.1, c.2.1.1.2.1, c.2.1.1.2.2.1, c.2.1.1.2.2.2.1, c.2.1.1.2.2.2.2.1, c.2.1.1.2.2.2.2.2.1, c.2.1.1.2.2.2.2.2.2.1⟩
theorem CP.i {h : AH} {P : PG} (c : CP h P) {i : Nat} (hi : i < P_m P) : ah_i h 33 i = nI (P_hd P i) ∧ ah_i h 34 i = nI (P_nd P i) ∧ ah_i h 35 i = nI (P_bn P i) ∧ (P_hs P i = true → ∀ a, a < P_n P → ah_l h 36 (i * 12 + a) = P_wt P i a) ∧ ∃ r, ah_r h 32 i = some r ∧ RuI h r P i := c.2.1.1.2.2.2.2.2.2.2 i hi
theorem CP.hd {h : AH} {P : PG} (c : CP h P) {i : Nat} (hi : i < P_m P) : P_hd P i < 4096 := Nat.lt_of_lt_of_le (c.2.2.2.2 i hi).1 c.pn
theorem CP.nd {h : AH} {P : PG} (c : CP h P) {i : Nat} (hi : i < P_m P) : P_nd P i < 4096 := Nat.lt_of_lt_of_le (c.2.2.2.2 i hi).2.1 c.pn
theorem CP.bn {h : AH} {P : PG} (c : CP h P) {i : Nat} (hi : i < P_m P) : P_bn P i < 4096 := Nat.lt_of_lt_of_le (c.2.2.2.2 i hi).2.2.1 c.pn
theorem kdc {h : AH} {P : PG} (c : CP h P) {i : Nat} (hi : i < P_m P) : P_kd P i ≤ 3 := (c.2.2.2.2 i hi).2.2.2.1
theorem hd_split {a s : Nat} (ha : a < 4096) : (a &&& s % 64 = 0 ∧ a / 64 &&& s / 64 = 0) ↔ a &&& s = 0 := by
  constructor
  · rintro ⟨h1, h2⟩
    apply Nat.eq_of_testBit_eq
    intro i
    rw [Nat.testBit_and, Nat.zero_testBit]
    by_cases hi : i < 6
    · have := congrArg (fun z => z.testBit i) h1
      rw [show (64 : Nat) = 2 ^ 6 from rfl] at this
      simp only [Nat.testBit_and, Nat.testBit_mod_two_pow, hi, decide_true, Bool.true_and, Nat.zero_testBit] at this
      exact this
    · have := congrArg (fun z => z.testBit (i - 6)) h2
      rw [show (64 : Nat) = 2 ^ 6 from rfl] at this
      simp only [Nat.testBit_and, Nat.testBit_div_two_pow, Nat.zero_testBit] at this
      rwa [show i - 6 + 6 = i by omega] at this
  · intro h0
    constructor <;> apply Nat.eq_of_testBit_eq <;> intro i
    · have := congrArg (fun z => z.testBit i) h0
      rw [show (64 : Nat) = 2 ^ 6 from rfl]
      simp only [Nat.testBit_and, Nat.zero_testBit, Nat.testBit_mod_two_pow] at this ⊢
      by_cases hi : i < 6 <;> simp_all
    · have := congrArg (fun z => z.testBit (i + 6)) h0
      rw [show (64 : Nat) = 2 ^ 6 from rfl]
      simp only [Nat.testBit_and, Nat.testBit_div_two_pow, Nat.zero_testBit] at this ⊢
      exact this
section CLS
variable {sc : (Nat → Int32) × Nat} {d : Nat} {h : AH} {Q : Rs → AH → Prop} {P : PG}
theorem d_203 (c : CP h P) : TC sc (d + 1) 203 [.ref 31] h Q ↔ Q (.inl (some (.int (nI (2 ^ P_n P))))) h := c_203 c.1 c.n c.f.1
theorem d_220 (c : CP h P) {s : Nat} (hs : s < 2 ^ P_n P) : TC sc (d + 1) 220 [.ref 31, .int (nI s)] h Q ↔ Q (.inl (some (.long (lN (hl P s))))) h := by
  rw [c_220 c.1 (Nat.lt_of_lt_of_le hs c.pn), c.2.1.2.1 s hs]
  exact Iff.rfl
theorem d_221 (c : CP h P) {s : Nat} (hs : s < 2 ^ P_n P) : TC sc (d + 1) 221 [.ref 31, .int (nI s)] h Q ↔ Q (.inl (some (.long (lN (hdd P s))))) h := by
  have h1 := Nat.lt_of_lt_of_le hs c.pn
  rw [c_221 c.1 h1, (c.2.1.2.2 (s % 64) (by omega)).1, (c.2.1.2.2 (s / 64) (by omega)).2, lx_or, msk_or]
  have : (msk (P_m P) fun i => (!decide (P_hd P i &&& s % 64 = 0)) || !decide (P_hd P i / 64 &&& s / 64 = 0)) = hdd P s := msk_c fun i hi => by
    have := hd_split (s := s) (c.hd hi)
    rw [← Bool.not_and, ← Bool.decide_and]
    exact congrArg (!·) (decide_eq_decide.mpr this)
  rw [this]
theorem d_217 (c : CP h P) {i : Nat} (hi : i < P_m P) : TC sc (d + 1) 217 [.ref 31, .int (nI i)] h Q ↔ Q (.inl (some (va_rf (ah_r h 32 i)))) h := c_217 c.1 c.2.1.1 hi c.m
theorem d_218 (c : CP h P) {i : Nat} (hi : i < P_m P) : TC sc (d + 1) 218 [.ref 31, .int (nI i)] h Q ↔ Q (.inl (some (.int (nI (P_hd P i))))) h := TC_of (fun Q hq => by
  have := c.m
  refine TC_e (ls := [.ref 31, .int (nI i)]) (Nat.le_of_ble_eq_true rfl) rfl (wx_sound (S := []) 40 true _ _ _ _ ?_)
  simp +contextual (disch := omega) only [K218, wx_t, wx_g, wJ_t, wJ_f, wI_s, CI, CL, C01, aftC_v, aftC_n, true_or, or_true, true_and, and_true, inS_n, inS_c, pI_c, pL_c, pA_c, pV_c, pE_c, pQ_s, pQ_n, pQ_r, cm_eq', cm_ne', cm_lt', cm_ge', cm_gt', cm_le', List.getD_cons_zero, List.getD_cons_succ, Nat.reduceAdd, Nat.reduceBEq, Bool.false_or, Bool.or_false, Bool.true_or, Int.reduceToNat, s_iload, s_lload, s_aload, s_istore, s_astore, s_lstore, s_iconst, s_sipush, s_aconst_null, s_iadd, s_isub, s_imul, s_iand, s_ior, s_ixor, s_idiv, s_irem, s_ishl, s_ishr, s_iushr, s_ladd, s_lsub, s_land, s_lor, s_lxor, s_lneg, s_lshl, s_lshr, s_lushr, s_i2l, s_l2i, s_lcmp, s_dup, s_pop, s_dup2, s_i2c, s_i2s, s_monitorenter, s_ifCond, s_if_icmp, s_ifnull, s_goto, s_iinc, s_tableswitch, s_ireturn, s_freturn, s_lreturn, s_areturn, s_return_, s_ldc, s_getfield, s_putfield, s_iaload, s_iastore, s_laload, s_lastore, s_baload, s_bastore, s_aaload, s_aastore, s_arraylength, s_newarray, s_anewarray, s_new, s_invokestatic, s_invokespecial, s_invokevirtual, fvl_0, fvl_1, fvl_2, fvl_3, fp_0, fp_1, fp_2, fp_3, rf_s, rf_n, isRf_b, knw_b, isLg_b, popA_0, popA_s, st1_0, st1_s, st2_e, set_0, set_s, aftC_e, hxP_s, hxP_n, iteF, iteT, bft, im_t, im_f, nt_f, nt_t, Nat.reduceDiv, Nat.reduceMod, Nat.reduceLeDiff, Nat.reduceLT, Nat.reduceEqDiff, List.length_cons, List.length_nil, Nat.zero_add, Nat.reduceSub, List.cons_append, List.nil_append, ak_i, az_i, ar_i, al_i, ai_i, ak_l, az_l, ar_l, al_l, ai_l, ak_r, az_r, ar_r, al_r, ai_r, reduceCtorEq, msk_tb, mskL, Bool.and_eq_true, decide_eq_true_eq, lg_0, lg_t, lg_g, lg_e, lg_l, tb_z, Nat.mod_eq_of_lt, lN_1s, and_ze, brT, brF, brN, vpT, a4095, a63, nI_e, nI_l', nI_t', dif_z, and_z, and_zr, lN_e, nI_clamp, nx_shr, Nat.reducePow, bI_0, bI_1, bI_z, bI_o, bI_or, n01, nI_add, pk_mul, nx_and, nx_or, nx_dif, lx_and, lx_or, lx_dif, Bool.not_eq_true, Bool.not_eq_false, Bool.true_eq_false, Bool.false_eq_true, ss_31 c.1, c.f, c.i hi]
  repeat' (first | exact hq | refine And.intro (fun _ => ?_) (fun _ => ?_))
  all_goals first | exact hq | exact lf1 hq (by simp_all) | exact lf0 hq (by simp_all)) Q
theorem d_219 (c : CP h P) {i : Nat} (hi : i < P_m P) : TC sc (d + 1) 219 [.ref 31, .int (nI i)] h Q ↔ Q (.inl (some (.int (nI (P_nd P i))))) h := TC_of (fun Q hq => by
  have := c.m
  refine TC_e (ls := [.ref 31, .int (nI i)]) (Nat.le_of_ble_eq_true rfl) rfl (wx_sound (S := []) 40 true _ _ _ _ ?_)
  simp +contextual (disch := omega) only [K219, wx_t, wx_g, wJ_t, wJ_f, wI_s, CI, CL, C01, aftC_v, aftC_n, true_or, or_true, true_and, and_true, inS_n, inS_c, pI_c, pL_c, pA_c, pV_c, pE_c, pQ_s, pQ_n, pQ_r, cm_eq', cm_ne', cm_lt', cm_ge', cm_gt', cm_le', List.getD_cons_zero, List.getD_cons_succ, Nat.reduceAdd, Nat.reduceBEq, Bool.false_or, Bool.or_false, Bool.true_or, Int.reduceToNat, s_iload, s_lload, s_aload, s_istore, s_astore, s_lstore, s_iconst, s_sipush, s_aconst_null, s_iadd, s_isub, s_imul, s_iand, s_ior, s_ixor, s_idiv, s_irem, s_ishl, s_ishr, s_iushr, s_ladd, s_lsub, s_land, s_lor, s_lxor, s_lneg, s_lshl, s_lshr, s_lushr, s_i2l, s_l2i, s_lcmp, s_dup, s_pop, s_dup2, s_i2c, s_i2s, s_monitorenter, s_ifCond, s_if_icmp, s_ifnull, s_goto, s_iinc, s_tableswitch, s_ireturn, s_freturn, s_lreturn, s_areturn, s_return_, s_ldc, s_getfield, s_putfield, s_iaload, s_iastore, s_laload, s_lastore, s_baload, s_bastore, s_aaload, s_aastore, s_arraylength, s_newarray, s_anewarray, s_new, s_invokestatic, s_invokespecial, s_invokevirtual, fvl_0, fvl_1, fvl_2, fvl_3, fp_0, fp_1, fp_2, fp_3, rf_s, rf_n, isRf_b, knw_b, isLg_b, popA_0, popA_s, st1_0, st1_s, st2_e, set_0, set_s, aftC_e, hxP_s, hxP_n, iteF, iteT, bft, im_t, im_f, nt_f, nt_t, Nat.reduceDiv, Nat.reduceMod, Nat.reduceLeDiff, Nat.reduceLT, Nat.reduceEqDiff, List.length_cons, List.length_nil, Nat.zero_add, Nat.reduceSub, List.cons_append, List.nil_append, ak_i, az_i, ar_i, al_i, ai_i, ak_l, az_l, ar_l, al_l, ai_l, ak_r, az_r, ar_r, al_r, ai_r, reduceCtorEq, msk_tb, mskL, Bool.and_eq_true, decide_eq_true_eq, lg_0, lg_t, lg_g, lg_e, lg_l, tb_z, Nat.mod_eq_of_lt, lN_1s, and_ze, brT, brF, brN, vpT, a4095, a63, nI_e, nI_l', nI_t', dif_z, and_z, and_zr, lN_e, nI_clamp, nx_shr, Nat.reducePow, bI_0, bI_1, bI_z, bI_o, bI_or, n01, nI_add, pk_mul, nx_and, nx_or, nx_dif, lx_and, lx_or, lx_dif, Bool.not_eq_true, Bool.not_eq_false, Bool.true_eq_false, Bool.false_eq_true, ss_31 c.1, c.f, c.i hi]
  repeat' (first | exact hq | refine And.intro (fun _ => ?_) (fun _ => ?_))
  all_goals first | exact hq | exact lf1 hq (by simp_all) | exact lf0 hq (by simp_all)) Q
theorem d_223 (c : CP h P) {i s : Nat} (hi : i < P_m P) (hs : s < 2 ^ P_n P) (hk : P_kd P i = 1) : TC sc (d + 2) 223 [.ref 31, .int (nI i), .int (nI s)] h Q ↔ Q (.inl (some (.int (bI (wch P i s))))) h := TC_of (fun Q hq => by
  have := c.m
  have h1 := c.hd hi
  have h2 : P_hd P i &&& s < 4096 := and_lt (n := 12) h1
  obtain ⟨r, hr, ru⟩ := (c.i hi).2.2.2.2
  refine TC_e (ls := [.ref 31, .int (nI i), .int (nI s), unk, unk]) (Nat.le_of_ble_eq_true rfl) rfl (wx_sound (S := []) 40 true _ _ _ _ ?_)
  simp +contextual (disch := omega) only [K223, wx_t, wx_g, wJ_t, wJ_f, wI_s, CI, CL, C01, aftC_v, aftC_n, true_or, or_true, true_and, and_true, inS_n, inS_c, pI_c, pL_c, pA_c, pV_c, pE_c, pQ_s, pQ_n, pQ_r, cm_eq', cm_ne', cm_lt', cm_ge', cm_gt', cm_le', List.getD_cons_zero, List.getD_cons_succ, Nat.reduceAdd, Nat.reduceBEq, Bool.false_or, Bool.or_false, Bool.true_or, Int.reduceToNat, s_iload, s_lload, s_aload, s_istore, s_astore, s_lstore, s_iconst, s_sipush, s_aconst_null, s_iadd, s_isub, s_imul, s_iand, s_ior, s_ixor, s_idiv, s_irem, s_ishl, s_ishr, s_iushr, s_ladd, s_lsub, s_land, s_lor, s_lxor, s_lneg, s_lshl, s_lshr, s_lushr, s_i2l, s_l2i, s_lcmp, s_dup, s_pop, s_dup2, s_i2c, s_i2s, s_monitorenter, s_ifCond, s_if_icmp, s_ifnull, s_goto, s_iinc, s_tableswitch, s_ireturn, s_freturn, s_lreturn, s_areturn, s_return_, s_ldc, s_getfield, s_putfield, s_iaload, s_iastore, s_laload, s_lastore, s_baload, s_bastore, s_aaload, s_aastore, s_arraylength, s_newarray, s_anewarray, s_new, s_invokestatic, s_invokespecial, s_invokevirtual, fvl_0, fvl_1, fvl_2, fvl_3, fp_0, fp_1, fp_2, fp_3, rf_s, rf_n, isRf_b, knw_b, isLg_b, popA_0, popA_s, st1_0, st1_s, st2_e, set_0, set_s, aftC_e, hxP_s, hxP_n, iteF, iteT, bft, im_t, im_f, nt_f, nt_t, Nat.reduceDiv, Nat.reduceMod, Nat.reduceLeDiff, Nat.reduceLT, Nat.reduceEqDiff, List.length_cons, List.length_nil, Nat.zero_add, Nat.reduceSub, List.cons_append, List.nil_append, ak_i, az_i, ar_i, al_i, ai_i, ak_l, az_l, ar_l, al_l, ai_l, ak_r, az_r, ar_r, al_r, ai_r, reduceCtorEq, msk_tb, mskL, Bool.and_eq_true, decide_eq_true_eq, lg_0, lg_t, lg_g, lg_e, lg_l, tb_z, Nat.mod_eq_of_lt, lN_1s, and_ze, brT, brF, brN, vpT, a4095, a63, nI_e, nI_l', nI_t', dif_z, and_z, and_zr, lN_e, nI_clamp, nx_shr, Nat.reducePow, bI_0, bI_1, bI_z, bI_o, bI_or, n01, nI_add, pk_mul, nx_and, nx_or, nx_dif, lx_and, lx_or, lx_dif, Bool.not_eq_true, Bool.not_eq_false, Bool.true_eq_false, Bool.false_eq_true, ss_31 c.1, d_217 c hi, d_218 c hi, d_278 _ h2, hr, ru.1, ru.2.1, ru.2.2.1, ru.2.2.2.2.2.2.1 hk]
  repeat' (first | exact hq | refine And.intro (fun _ => ?_) (fun _ => ?_))
  all_goals first | exact hq | exact lf1 hq (by simp_all [wch, ← Int32.not_lt]) | exact lf0 hq (by simp_all [wch, ← Int32.not_lt])) Q
theorem d_222 (c : CP h P) {s : Nat} (hs : s < 2 ^ P_n P) : TC sc (d + 3) 222 [.ref 31, .int (nI s)] h Q ↔ Q (.inl (some (.long (lN (msk (P_m P) (usat P s)))))) h := TC_of (fun Q hq => by
  have := c.m
  have lp : ∀ k, k ≤ P_m P → ∀ B A, B = (msk (P_m P) fun i => holds P i s && ((decide (P_kd P i = 0) && decide (P_hd P i &&& s = 0)) || (decide (i < k) && decide (P_kd P i = 1) && !wch P i s))) → A = (msk (P_m P) fun i => holds P i s && decide (P_kd P i = 1)) →
      TT sc (d + 2) 222 Q 22 [.ref 31, .int (nI s), .long (lN (hl P s)), unk, .long (lN B), unk, .long (lN A), unk, .int (nI k)] [] h := by
    refine up_to fun k hk ih => ?_
    rintro B A hB rfl
    refine wx_sound (S := [22]) 40 true _ _ _ _ ?_
    simp +contextual (disch := omega) only [K222, wx_t, wx_g, wJ_t, wJ_f, wI_s, CI, CL, C01, aftC_v, aftC_n, true_or, or_true, true_and, and_true, inS_n, inS_c, pI_c, pL_c, pA_c, pV_c, pE_c, pQ_s, pQ_n, pQ_r, cm_eq', cm_ne', cm_lt', cm_ge', cm_gt', cm_le', List.getD_cons_zero, List.getD_cons_succ, Nat.reduceAdd, Nat.reduceBEq, Bool.false_or, Bool.or_false, Bool.true_or, Int.reduceToNat, s_iload, s_lload, s_aload, s_istore, s_astore, s_lstore, s_iconst, s_sipush, s_aconst_null, s_iadd, s_isub, s_imul, s_iand, s_ior, s_ixor, s_idiv, s_irem, s_ishl, s_ishr, s_iushr, s_ladd, s_lsub, s_land, s_lor, s_lxor, s_lneg, s_lshl, s_lshr, s_lushr, s_i2l, s_l2i, s_lcmp, s_dup, s_pop, s_dup2, s_i2c, s_i2s, s_monitorenter, s_ifCond, s_if_icmp, s_ifnull, s_goto, s_iinc, s_tableswitch, s_ireturn, s_freturn, s_lreturn, s_areturn, s_return_, s_ldc, s_getfield, s_putfield, s_iaload, s_iastore, s_laload, s_lastore, s_baload, s_bastore, s_aaload, s_aastore, s_arraylength, s_newarray, s_anewarray, s_new, s_invokestatic, s_invokespecial, s_invokevirtual, fvl_0, fvl_1, fvl_2, fvl_3, fp_0, fp_1, fp_2, fp_3, rf_s, rf_n, isRf_b, knw_b, isLg_b, popA_0, popA_s, st1_0, st1_s, st2_e, set_0, set_s, aftC_e, hxP_s, hxP_n, iteF, iteT, bft, im_t, im_f, nt_f, nt_t, Nat.reduceDiv, Nat.reduceMod, Nat.reduceLeDiff, Nat.reduceLT, Nat.reduceEqDiff, List.length_cons, List.length_nil, Nat.zero_add, Nat.reduceSub, List.cons_append, List.nil_append, ak_i, az_i, ar_i, al_i, ai_i, ak_l, az_l, ar_l, al_l, ai_l, ak_r, az_r, ar_r, al_r, ai_r, reduceCtorEq, msk_tb, mskL, Bool.and_eq_true, decide_eq_true_eq, lg_0, lg_t, lg_g, lg_e, lg_l, tb_z, Nat.mod_eq_of_lt, lN_1s, and_ze, brT, brF, brN, vpT, a4095, a63, nI_e, nI_l', nI_t', dif_z, and_z, and_zr, lN_e, nI_clamp, nx_shr, Nat.reducePow, bI_0, bI_1, bI_z, bI_o, bI_or, n01, nI_add, pk_mul, nx_and, nx_or, nx_dif, lx_and, lx_or, lx_dif, Bool.not_eq_true, Bool.not_eq_false, Bool.true_eq_false, Bool.false_eq_true, ss_31 c.1, c.f, d_220 c hs, d_221 c hs, c_56, d_223 c _ hs, lx_bit]
    have fin : B = msk (P_m P) (usat P s) → Q (.inl (some (.long (lN B)))) h := fun e => by rw [e]; exact hq
    refine And.intro (fun e => fin ?_) fun e => And.intro (fun e2 => fin ?_) fun e2 => And.intro (fun e3 => ?_) fun e3 => And.intro (fun e4 => ?_) fun e4 => ?_
    · rw [hB]; refine msk_c fun i hi => ?_
      have : i < k := by omega
      simp [usat, this]
    · rw [hB]; refine msk_c fun i hi => ?_
      have := (msk_z _ _).mp e2 i hi
      simp only [Bool.and_eq_false_iff, decide_eq_false_iff_not] at this
      rcases this with a | a <;> simp [usat, a]
    · refine ih (by omega) _ _ ?_ rfl
      rw [hB]; refine msk_c fun i hi => ?_
      by_cases ei : i = k
      · subst ei
        cases hh : holds P i s
        · simp
        · simp [hh, hi] at e3
          simp [e3]
      · rw [dlt ei]
    · refine ih (by omega) _ _ ?_ rfl
      rw [hB]; refine msk_add (by omega) ?_ fun i hi ei => by rw [dlt ei]
      simp [e3.2.1, e3.2.2, e4]
    · refine ih (by omega) _ _ ?_ rfl
      rw [hB]; refine msk_c fun i hi => ?_
      by_cases ei : i = k
      · subst ei
        simp [e4]
      · rw [dlt ei]
  refine TC_e (ls := [.ref 31, .int (nI s), unk, unk, unk, unk, unk, unk, unk]) (Nat.le_of_ble_eq_true rfl) rfl (wx_sound (S := [22]) 40 true _ _ _ _ ?_)
  simp +contextual (disch := omega) only [K222, wx_t, wx_g, wJ_t, wJ_f, wI_s, CI, CL, C01, aftC_v, aftC_n, true_or, or_true, true_and, and_true, inS_n, inS_c, pI_c, pL_c, pA_c, pV_c, pE_c, pQ_s, pQ_n, pQ_r, cm_eq', cm_ne', cm_lt', cm_ge', cm_gt', cm_le', List.getD_cons_zero, List.getD_cons_succ, Nat.reduceAdd, Nat.reduceBEq, Bool.false_or, Bool.or_false, Bool.true_or, Int.reduceToNat, s_iload, s_lload, s_aload, s_istore, s_astore, s_lstore, s_iconst, s_sipush, s_aconst_null, s_iadd, s_isub, s_imul, s_iand, s_ior, s_ixor, s_idiv, s_irem, s_ishl, s_ishr, s_iushr, s_ladd, s_lsub, s_land, s_lor, s_lxor, s_lneg, s_lshl, s_lshr, s_lushr, s_i2l, s_l2i, s_lcmp, s_dup, s_pop, s_dup2, s_i2c, s_i2s, s_monitorenter, s_ifCond, s_if_icmp, s_ifnull, s_goto, s_iinc, s_tableswitch, s_ireturn, s_freturn, s_lreturn, s_areturn, s_return_, s_ldc, s_getfield, s_putfield, s_iaload, s_iastore, s_laload, s_lastore, s_baload, s_bastore, s_aaload, s_aastore, s_arraylength, s_newarray, s_anewarray, s_new, s_invokestatic, s_invokespecial, s_invokevirtual, fvl_0, fvl_1, fvl_2, fvl_3, fp_0, fp_1, fp_2, fp_3, rf_s, rf_n, isRf_b, knw_b, isLg_b, popA_0, popA_s, st1_0, st1_s, st2_e, set_0, set_s, aftC_e, hxP_s, hxP_n, iteF, iteT, bft, im_t, im_f, nt_f, nt_t, Nat.reduceDiv, Nat.reduceMod, Nat.reduceLeDiff, Nat.reduceLT, Nat.reduceEqDiff, List.length_cons, List.length_nil, Nat.zero_add, Nat.reduceSub, List.cons_append, List.nil_append, ak_i, az_i, ar_i, al_i, ai_i, ak_l, az_l, ar_l, al_l, ai_l, ak_r, az_r, ar_r, al_r, ai_r, reduceCtorEq, msk_tb, mskL, Bool.and_eq_true, decide_eq_true_eq, lg_0, lg_t, lg_g, lg_e, lg_l, tb_z, Nat.mod_eq_of_lt, lN_1s, and_ze, brT, brF, brN, vpT, a4095, a63, nI_e, nI_l', nI_t', dif_z, and_z, and_zr, lN_e, nI_clamp, nx_shr, Nat.reducePow, bI_0, bI_1, bI_z, bI_o, bI_or, n01, nI_add, pk_mul, nx_and, nx_or, nx_dif, lx_and, lx_or, lx_dif, Bool.not_eq_true, Bool.not_eq_false, Bool.true_eq_false, Bool.false_eq_true, ss_31 c.1, c.f, d_220 c hs, d_221 c hs]
  refine lp 0 (by omega) _ _ ?_ ?_
  · rw [hl, hdd, msk_and, msk_dif]
    refine msk_c fun i hi => by simp [Bool.and_assoc]
  · rw [hl, msk_and]) Q
end CLS
